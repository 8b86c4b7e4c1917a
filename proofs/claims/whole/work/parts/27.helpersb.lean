-- HammerDepotLaw rackOf (LHammerDepot;I[J)I
def f_L_rackOf (h_count : Int32) (h_slots : Nat → Int32) (out : Nat → Int64) (a1 : Int32) : Option (Int32 × (Nat → Int64)) :=
  Option.bind (f_X9_rackOf h_count h_slots a1) (fun u1 => Sum.elim (fun x4 => if x4 = "java/lang/IndexOutOfBoundsException" then
    some (1, out)
  else
    if x4 = "java/util/NoSuchElementException" then
      some (2, out)
    else
      none) (fun r3 =>
    if jin 0 1 = true then
      some (0, vp_updL out (0 : Int32).toNatClampNeg ((r3).toInt64))
    else none) u1)
set_option maxHeartbeats 4000000 in
set_option maxRecDepth 100000 in
theorem k_L_rackOf {l : Launch} {D : va_G} {t : Nat → ClassId} {ad : Nat → Nat} {o oS oN oY oG oC oP oB oL : Nat} (hl : l.stackTraces = false) (d_hasSnapshot : Int32) (d_errorAt : Int32) (d_failedAt : Int32) (h_count : Int32) (h_pitches : Nat → Int32) (h_wears : Nat → Int32) (h_slots : Nat → Int32) (h_borrowers : Nat → Int32) (h_dueDays : Nat → Int32) (h_contents : Nat → Int32) (r_count : Int32) (r_nextId : Int32) (r_ids : Nat → Int32) (r_borrowers : Nat → Int32) (r_pitches : Nat → Int32) (r_tolerances : Nat → Int32) (r_firstDays : Nat → Int32) (r_lastDays : Nat → Int32) (b_count : Int32) (b_hammers : Nat → Int32) (b_borrowers : Nat → Int32) (b_firstDays : Nat → Int32) (b_lastDays : Nat → Int32) (s_day : Int32) (s_coins : Int32) (s_bookingCoins : Int32) (s_lateCoins : Int32) (s_faceCosts : Int32) (s_broken : Int32) (s_lent : Int32) (out : Nat → Int64) (a1 : Int32) (u : Int32 × (Nat → Int64)) (hf : f_L_rackOf h_count h_slots out a1 = some u) : cmh l D (jT t) yL_rackOf cL_rackOf 4 (some FieldType.int) [(0, 9, 12, 15), (0, 9, 15, 34)] { frames := 8, cells := 2, slots := 12, locals := 132 } [.ref (ad o), .int a1, .ref (ad oL)] (wD t ad o oS oN oY oG oC oP oB d_hasSnapshot d_errorAt d_failedAt ++ (wS t ad oS h_count h_pitches h_wears h_slots h_borrowers h_dueDays h_contents r_count r_nextId r_ids r_borrowers r_pitches r_tolerances r_firstDays r_lastDays b_count b_hammers b_borrowers b_firstDays b_lastDays s_day s_coins s_bookingCoins s_lateCoins s_faceCosts s_broken s_lent ++ ([(ad (oL), .inl (t 3, 1, .inr (.inl out)))]))) (fun v w => v = (some (.int u.1)) ∧ w = wD t ad o oS oN oY oG oC oP oB d_hasSnapshot d_errorAt d_failedAt ++ (wS t ad oS h_count h_pitches h_wears h_slots h_borrowers h_dueDays h_contents r_count r_nextId r_ids r_borrowers r_pitches r_tolerances r_firstDays r_lastDays b_count b_hammers b_borrowers b_firstDays b_lastDays s_day s_coins s_bookingCoins s_lateCoins s_faceCosts s_broken s_lent ++ ([(ad (oL), .inl (t 3, 1, .inr (.inl u.2)))]))) := by
  refine cmh_of RL rfl (by decide +kernel) (Nat.le_of_ble_eq_true rfl) (fun X hX hE hTB => ?_)
  change J X 0 0 (wD t ad o oS oN oY oG oC oP oB d_hasSnapshot d_errorAt d_failedAt ++ (wS t ad oS h_count h_pitches h_wears h_slots h_borrowers h_dueDays h_contents r_count r_nextId r_ids r_borrowers r_pitches r_tolerances r_firstDays r_lastDays b_count b_hammers b_borrowers b_firstDays b_lastDays s_day s_coins s_bookingCoins s_lateCoins s_faceCosts s_broken s_lent ++ ([(ad (oL), .inl (t 3, 1, .inr (.inl out)))]))) 0 [(0, .ref (ad o)), (1, .int a1), (2, .ref (ad oL))] []
  unfold f_L_rackOf at hf
  refine j_aload_n hX dL_rackOf_0 rfl 2 rfl ?_
  refine j_iconst hX 0 dL_rackOf_1 (by decide) ?_
  refine j_aload_n hX dL_rackOf_2 rfl 0 rfl ?_
  refine j_iload_n hX dL_rackOf_3 rfl 1 rfl ?_
  obtain ⟨u1, h2, hf⟩ := jbind hf
  refine j_mix hX [wD t ad o oS oN oY oG oC oP oB d_hasSnapshot d_errorAt d_failedAt, wS t ad oS h_count h_pitches h_wears h_slots h_borrowers h_dueDays h_contents r_count r_nextId r_ids r_borrowers r_pitches r_tolerances r_firstDays r_lastDays b_count b_hammers b_borrowers b_firstDays b_lastDays s_day s_coins s_bookingCoins s_lateCoins s_faceCosts s_broken s_lent, [(ad (oL), .inl (t 3, 1, .inr (.inl out)))]] [0, 1] [2] 3 rfl (by decide) rfl (fun hmix => ?_)
  refine j_callVXC (a := 0) (b := 0) (st := [.int 0, .ref (ad oL)]) hX hTB (k_X9_rackOf (l := l) (D := D) (t := t) (ad := ad) (o := o) (oS := oS) (oN := oN) (oY := oY) (oG := oG) (oC := oC) (oP := oP) (oB := oB) hl d_hasSnapshot d_errorAt d_failedAt h_count h_pitches h_wears h_slots h_borrowers h_dueDays h_contents r_count r_nextId r_ids r_borrowers r_pitches r_tolerances r_firstDays r_lastDays b_count b_hammers b_borrowers b_firstDays b_lastDays s_day s_coins s_bookingCoins s_lateCoins s_faceCosts s_broken s_lent a1 u1 h2) q853 q854 q855 q1 q856 (n9 := 1) rfl ⟨by decide +kernel, by decide +kernel⟩ 0 rfl rfl rfl dL_rackOf_4 (Nat.le_of_ble_eq_true rfl) ⟨by decide, by decide⟩ (fun w : va_W => w ++ ([(ad (oL), .inl (t 3, 1, .inr (.inl out)))])) (jFr_r _) rfl rfl (fun E w hxw => ?_) (fun v w hvw => ?_)
  · obtain ⟨x4, rfl, hE4, rfl⟩ := hxw
    have hE4 := hE4.symm
    subst hE4
    have hf := jsum_l hf
    by_cases g4_0 : x4 = "java/lang/IndexOutOfBoundsException"
    · have hf := jifp hf g4_0
      refine ⟨wD t ad o oS oN oY oG oC oP oB d_hasSnapshot d_errorAt d_failedAt ++ (wS t ad oS h_count h_pitches h_wears h_slots h_borrowers h_dueDays h_contents r_count r_nextId r_ids r_borrowers r_pitches r_tolerances r_firstDays r_lastDays b_count b_hammers b_borrowers b_firstDays b_lastDays s_day s_coins s_bookingCoins s_lateCoins s_faceCosts s_broken s_lent ++ ([(ad (oL), .inl (t 3, 1, .inr (.inl out)))])), 12, (jmix_perm (bs := [wD t ad o oS oN oY oG oC oP oB d_hasSnapshot d_errorAt d_failedAt, wS t ad oS h_count h_pitches h_wears h_slots h_borrowers h_dueDays h_contents r_count r_nextId r_ids r_borrowers r_pitches r_tolerances r_firstDays r_lastDays b_count b_hammers b_borrowers b_firstDays b_lastDays s_day s_coins s_bookingCoins s_lateCoins s_faceCosts s_broken s_lent, [(ad (oL), .inl (t 3, 1, .inr (.inl out)))]]) (is := [0, 1]) (js := [2]) 3 rfl (by decide)).symm, ?_, fun q => ?_⟩
      · rw [g4_0]
        exact ⟨[], { startPc := 0, endPc := 9, handlerPc := 12, catchType := 15 }, [{ startPc := 0, endPc := 9, handlerPc := 15, catchType := 34 }], "java/lang/IndexOutOfBoundsException", rfl, fun _ h => absurd h List.not_mem_nil, by decide, by decide, q599, q390, rfl⟩
      · change J X 2 12 (wD t ad o oS oN oY oG oC oP oB d_hasSnapshot d_errorAt d_failedAt ++ (wS t ad oS h_count h_pitches h_wears h_slots h_borrowers h_dueDays h_contents r_count r_nextId r_ids r_borrowers r_pitches r_tolerances r_firstDays r_lastDays b_count b_hammers b_borrowers b_firstDays b_lastDays s_day s_coins s_bookingCoins s_lateCoins s_faceCosts s_broken s_lent ++ ([(ad (oL), .inl (t 3, 1, .inr (.inl out)))]))) 12 [(0, .ref (ad o)), (1, .int a1), (2, .ref (ad oL))] [.ref q]
        refine j_astore_n hX [(3, .ref q), (0, .ref (ad o)), (1, .int a1), (2, .ref (ad oL))] dL_rackOf_12 rfl (by decide) rfl ?_
        refine j_iconst hX 1 dL_rackOf_13 (by decide) ?_
        cases hf
        exact j_iret hX hE dL_rackOf_14 (Nat.le_of_ble_eq_true rfl) (Nat.le_of_ble_eq_true rfl) ⟨rfl, rfl⟩
    have hf := jifn hf g4_0
    by_cases g4_1 : x4 = "java/util/NoSuchElementException"
    · have hf := jifp hf g4_1
      refine ⟨wD t ad o oS oN oY oG oC oP oB d_hasSnapshot d_errorAt d_failedAt ++ (wS t ad oS h_count h_pitches h_wears h_slots h_borrowers h_dueDays h_contents r_count r_nextId r_ids r_borrowers r_pitches r_tolerances r_firstDays r_lastDays b_count b_hammers b_borrowers b_firstDays b_lastDays s_day s_coins s_bookingCoins s_lateCoins s_faceCosts s_broken s_lent ++ ([(ad (oL), .inl (t 3, 1, .inr (.inl out)))])), 15, (jmix_perm (bs := [wD t ad o oS oN oY oG oC oP oB d_hasSnapshot d_errorAt d_failedAt, wS t ad oS h_count h_pitches h_wears h_slots h_borrowers h_dueDays h_contents r_count r_nextId r_ids r_borrowers r_pitches r_tolerances r_firstDays r_lastDays b_count b_hammers b_borrowers b_firstDays b_lastDays s_day s_coins s_bookingCoins s_lateCoins s_faceCosts s_broken s_lent, [(ad (oL), .inl (t 3, 1, .inr (.inl out)))]]) (is := [0, 1]) (js := [2]) 3 rfl (by decide)).symm, ?_, fun q => ?_⟩
      · rw [g4_1]
        exact ⟨[{ startPc := 0, endPc := 9, handlerPc := 12, catchType := 15 }], { startPc := 0, endPc := 9, handlerPc := 15, catchType := 34 }, [], "java/util/NoSuchElementException", rfl, List.forall_mem_cons.mpr ⟨⟨by decide, "java/lang/IndexOutOfBoundsException", q599, List.mem_of_getElem? (i := 28) rfl⟩, fun _ h => absurd h List.not_mem_nil⟩, by decide, by decide, q691, q406, rfl⟩
      · change J X 2 12 (wD t ad o oS oN oY oG oC oP oB d_hasSnapshot d_errorAt d_failedAt ++ (wS t ad oS h_count h_pitches h_wears h_slots h_borrowers h_dueDays h_contents r_count r_nextId r_ids r_borrowers r_pitches r_tolerances r_firstDays r_lastDays b_count b_hammers b_borrowers b_firstDays b_lastDays s_day s_coins s_bookingCoins s_lateCoins s_faceCosts s_broken s_lent ++ ([(ad (oL), .inl (t 3, 1, .inr (.inl out)))]))) 15 [(0, .ref (ad o)), (1, .int a1), (2, .ref (ad oL))] [.ref q]
        refine j_astore_n hX [(3, .ref q), (0, .ref (ad o)), (1, .int a1), (2, .ref (ad oL))] dL_rackOf_15 rfl (by decide) rfl ?_
        refine j_iconst hX 2 dL_rackOf_16 (by decide) ?_
        cases hf
        exact j_iret hX hE dL_rackOf_17 (Nat.le_of_ble_eq_true rfl) (Nat.le_of_ble_eq_true rfl) ⟨rfl, rfl⟩
    have hf := jifn hf g4_1
    cases hf
  · obtain ⟨r3, rfl, rfl, rfl⟩ := hvw
    have hf := jsum_r hf
    change J X 2 12 ((wD t ad o oS oN oY oG oC oP oB d_hasSnapshot d_errorAt d_failedAt ++ (wS t ad oS h_count h_pitches h_wears h_slots h_borrowers h_dueDays h_contents r_count r_nextId r_ids r_borrowers r_pitches r_tolerances r_firstDays r_lastDays b_count b_hammers b_borrowers b_firstDays b_lastDays s_day s_coins s_bookingCoins s_lateCoins s_faceCosts s_broken s_lent)) ++ ([(ad (oL), .inl (t 3, 1, .inr (.inl out)))])) 7 [(0, .ref (ad o)), (1, .int a1), (2, .ref (ad oL))] [.int r3, .int 0, .ref (ad oL)]
    refine hmix [wD t ad o oS oN oY oG oC oP oB d_hasSnapshot d_errorAt d_failedAt, wS t ad oS h_count h_pitches h_wears h_slots h_borrowers h_dueDays h_contents r_count r_nextId r_ids r_borrowers r_pitches r_tolerances r_firstDays r_lastDays b_count b_hammers b_borrowers b_firstDays b_lastDays s_day s_coins s_bookingCoins s_lateCoins s_faceCosts s_broken s_lent, [(ad (oL), .inl (t 3, 1, .inr (.inl out)))]] _ _ _ _ _ rfl ?_
    change J X 2 12 (wD t ad o oS oN oY oG oC oP oB d_hasSnapshot d_errorAt d_failedAt ++ (wS t ad oS h_count h_pitches h_wears h_slots h_borrowers h_dueDays h_contents r_count r_nextId r_ids r_borrowers r_pitches r_tolerances r_firstDays r_lastDays b_count b_hammers b_borrowers b_firstDays b_lastDays s_day s_coins s_bookingCoins s_lateCoins s_faceCosts s_broken s_lent ++ ([(ad (oL), .inl (t 3, 1, .inr (.inl out)))]))) 7 [(0, .ref (ad o)), (1, .int a1), (2, .ref (ad oL))] [.int r3, .int 0, .ref (ad oL)]
    refine j_i2l hX dL_rackOf_7 ?_
    refine j_last hX (wD t ad o oS oN oY oG oC oP oB d_hasSnapshot d_errorAt d_failedAt ++ (wS t ad oS h_count h_pitches h_wears h_slots h_borrowers h_dueDays h_contents r_count r_nextId r_ids r_borrowers r_pitches r_tolerances r_firstDays r_lastDays b_count b_hammers b_borrowers b_firstDays b_lastDays s_day s_coins s_bookingCoins s_lateCoins s_faceCosts s_broken s_lent ++ ([(ad (oL), .inl (t 3, 1, .inr (.inl (vp_updL out (0 : Int32).toNatClampNeg ((r3).toInt64)))))]))) dL_rackOf_8 21 3 rfl rfl rfl hf (fun c8 hf => ?_)
    refine j_goto hX 18 dL_rackOf_9 (by decide) ?_
    refine j_iconst hX 0 dL_rackOf_18 (by decide) ?_
    cases hf
    exact j_iret hX hE dL_rackOf_19 (Nat.le_of_ble_eq_true rfl) (Nat.le_of_ble_eq_true rfl) ⟨rfl, rfl⟩
-- HammerDepotLaw placeOf (LHammerDepot;I[J)I
def f_L_placeOf (h_count : Int32) (h_slots : Nat → Int32) (out : Nat → Int64) (a1 : Int32) : Option (Int32 × (Nat → Int64)) :=
  Option.bind (f_X9_placeOf h_count h_slots a1) (fun u1 => Sum.elim (fun x4 => if x4 = "java/lang/IndexOutOfBoundsException" then
    some (1, out)
  else
    if x4 = "java/util/NoSuchElementException" then
      some (2, out)
    else
      none) (fun r3 =>
    if jin 0 1 = true then
      some (0, vp_updL out (0 : Int32).toNatClampNeg ((r3).toInt64))
    else none) u1)
set_option maxHeartbeats 4000000 in
set_option maxRecDepth 100000 in
theorem k_L_placeOf {l : Launch} {D : va_G} {t : Nat → ClassId} {ad : Nat → Nat} {o oS oN oY oG oC oP oB oL : Nat} (hl : l.stackTraces = false) (d_hasSnapshot : Int32) (d_errorAt : Int32) (d_failedAt : Int32) (h_count : Int32) (h_pitches : Nat → Int32) (h_wears : Nat → Int32) (h_slots : Nat → Int32) (h_borrowers : Nat → Int32) (h_dueDays : Nat → Int32) (h_contents : Nat → Int32) (r_count : Int32) (r_nextId : Int32) (r_ids : Nat → Int32) (r_borrowers : Nat → Int32) (r_pitches : Nat → Int32) (r_tolerances : Nat → Int32) (r_firstDays : Nat → Int32) (r_lastDays : Nat → Int32) (b_count : Int32) (b_hammers : Nat → Int32) (b_borrowers : Nat → Int32) (b_firstDays : Nat → Int32) (b_lastDays : Nat → Int32) (s_day : Int32) (s_coins : Int32) (s_bookingCoins : Int32) (s_lateCoins : Int32) (s_faceCosts : Int32) (s_broken : Int32) (s_lent : Int32) (out : Nat → Int64) (a1 : Int32) (u : Int32 × (Nat → Int64)) (hf : f_L_placeOf h_count h_slots out a1 = some u) : cmh l D (jT t) yL_placeOf cL_placeOf 4 (some FieldType.int) [(0, 9, 12, 15), (0, 9, 15, 34)] { frames := 8, cells := 2, slots := 12, locals := 132 } [.ref (ad o), .int a1, .ref (ad oL)] (wD t ad o oS oN oY oG oC oP oB d_hasSnapshot d_errorAt d_failedAt ++ (wS t ad oS h_count h_pitches h_wears h_slots h_borrowers h_dueDays h_contents r_count r_nextId r_ids r_borrowers r_pitches r_tolerances r_firstDays r_lastDays b_count b_hammers b_borrowers b_firstDays b_lastDays s_day s_coins s_bookingCoins s_lateCoins s_faceCosts s_broken s_lent ++ ([(ad (oL), .inl (t 3, 1, .inr (.inl out)))]))) (fun v w => v = (some (.int u.1)) ∧ w = wD t ad o oS oN oY oG oC oP oB d_hasSnapshot d_errorAt d_failedAt ++ (wS t ad oS h_count h_pitches h_wears h_slots h_borrowers h_dueDays h_contents r_count r_nextId r_ids r_borrowers r_pitches r_tolerances r_firstDays r_lastDays b_count b_hammers b_borrowers b_firstDays b_lastDays s_day s_coins s_bookingCoins s_lateCoins s_faceCosts s_broken s_lent ++ ([(ad (oL), .inl (t 3, 1, .inr (.inl u.2)))]))) := by
  refine cmh_of RL rfl (by decide +kernel) (Nat.le_of_ble_eq_true rfl) (fun X hX hE hTB => ?_)
  change J X 0 0 (wD t ad o oS oN oY oG oC oP oB d_hasSnapshot d_errorAt d_failedAt ++ (wS t ad oS h_count h_pitches h_wears h_slots h_borrowers h_dueDays h_contents r_count r_nextId r_ids r_borrowers r_pitches r_tolerances r_firstDays r_lastDays b_count b_hammers b_borrowers b_firstDays b_lastDays s_day s_coins s_bookingCoins s_lateCoins s_faceCosts s_broken s_lent ++ ([(ad (oL), .inl (t 3, 1, .inr (.inl out)))]))) 0 [(0, .ref (ad o)), (1, .int a1), (2, .ref (ad oL))] []
  unfold f_L_placeOf at hf
  refine j_aload_n hX dL_placeOf_0 rfl 2 rfl ?_
  refine j_iconst hX 0 dL_placeOf_1 (by decide) ?_
  refine j_aload_n hX dL_placeOf_2 rfl 0 rfl ?_
  refine j_iload_n hX dL_placeOf_3 rfl 1 rfl ?_
  obtain ⟨u1, h2, hf⟩ := jbind hf
  refine j_mix hX [wD t ad o oS oN oY oG oC oP oB d_hasSnapshot d_errorAt d_failedAt, wS t ad oS h_count h_pitches h_wears h_slots h_borrowers h_dueDays h_contents r_count r_nextId r_ids r_borrowers r_pitches r_tolerances r_firstDays r_lastDays b_count b_hammers b_borrowers b_firstDays b_lastDays s_day s_coins s_bookingCoins s_lateCoins s_faceCosts s_broken s_lent, [(ad (oL), .inl (t 3, 1, .inr (.inl out)))]] [0, 1] [2] 3 rfl (by decide) rfl (fun hmix => ?_)
  refine j_callVXC (a := 0) (b := 0) (st := [.int 0, .ref (ad oL)]) hX hTB (k_X9_placeOf (l := l) (D := D) (t := t) (ad := ad) (o := o) (oS := oS) (oN := oN) (oY := oY) (oG := oG) (oC := oC) (oP := oP) (oB := oB) hl d_hasSnapshot d_errorAt d_failedAt h_count h_pitches h_wears h_slots h_borrowers h_dueDays h_contents r_count r_nextId r_ids r_borrowers r_pitches r_tolerances r_firstDays r_lastDays b_count b_hammers b_borrowers b_firstDays b_lastDays s_day s_coins s_bookingCoins s_lateCoins s_faceCosts s_broken s_lent a1 u1 h2) q864 q865 q866 q1 q867 (n9 := 1) rfl ⟨by decide +kernel, by decide +kernel⟩ 0 rfl rfl rfl dL_placeOf_4 (Nat.le_of_ble_eq_true rfl) ⟨by decide, by decide⟩ (fun w : va_W => w ++ ([(ad (oL), .inl (t 3, 1, .inr (.inl out)))])) (jFr_r _) rfl rfl (fun E w hxw => ?_) (fun v w hvw => ?_)
  · obtain ⟨x4, rfl, hE4, rfl⟩ := hxw
    have hE4 := hE4.symm
    subst hE4
    have hf := jsum_l hf
    by_cases g4_0 : x4 = "java/lang/IndexOutOfBoundsException"
    · have hf := jifp hf g4_0
      refine ⟨wD t ad o oS oN oY oG oC oP oB d_hasSnapshot d_errorAt d_failedAt ++ (wS t ad oS h_count h_pitches h_wears h_slots h_borrowers h_dueDays h_contents r_count r_nextId r_ids r_borrowers r_pitches r_tolerances r_firstDays r_lastDays b_count b_hammers b_borrowers b_firstDays b_lastDays s_day s_coins s_bookingCoins s_lateCoins s_faceCosts s_broken s_lent ++ ([(ad (oL), .inl (t 3, 1, .inr (.inl out)))])), 12, (jmix_perm (bs := [wD t ad o oS oN oY oG oC oP oB d_hasSnapshot d_errorAt d_failedAt, wS t ad oS h_count h_pitches h_wears h_slots h_borrowers h_dueDays h_contents r_count r_nextId r_ids r_borrowers r_pitches r_tolerances r_firstDays r_lastDays b_count b_hammers b_borrowers b_firstDays b_lastDays s_day s_coins s_bookingCoins s_lateCoins s_faceCosts s_broken s_lent, [(ad (oL), .inl (t 3, 1, .inr (.inl out)))]]) (is := [0, 1]) (js := [2]) 3 rfl (by decide)).symm, ?_, fun q => ?_⟩
      · rw [g4_0]
        exact ⟨[], { startPc := 0, endPc := 9, handlerPc := 12, catchType := 15 }, [{ startPc := 0, endPc := 9, handlerPc := 15, catchType := 34 }], "java/lang/IndexOutOfBoundsException", rfl, fun _ h => absurd h List.not_mem_nil, by decide, by decide, q599, q390, rfl⟩
      · change J X 2 12 (wD t ad o oS oN oY oG oC oP oB d_hasSnapshot d_errorAt d_failedAt ++ (wS t ad oS h_count h_pitches h_wears h_slots h_borrowers h_dueDays h_contents r_count r_nextId r_ids r_borrowers r_pitches r_tolerances r_firstDays r_lastDays b_count b_hammers b_borrowers b_firstDays b_lastDays s_day s_coins s_bookingCoins s_lateCoins s_faceCosts s_broken s_lent ++ ([(ad (oL), .inl (t 3, 1, .inr (.inl out)))]))) 12 [(0, .ref (ad o)), (1, .int a1), (2, .ref (ad oL))] [.ref q]
        refine j_astore_n hX [(3, .ref q), (0, .ref (ad o)), (1, .int a1), (2, .ref (ad oL))] dL_placeOf_12 rfl (by decide) rfl ?_
        refine j_iconst hX 1 dL_placeOf_13 (by decide) ?_
        cases hf
        exact j_iret hX hE dL_placeOf_14 (Nat.le_of_ble_eq_true rfl) (Nat.le_of_ble_eq_true rfl) ⟨rfl, rfl⟩
    have hf := jifn hf g4_0
    by_cases g4_1 : x4 = "java/util/NoSuchElementException"
    · have hf := jifp hf g4_1
      refine ⟨wD t ad o oS oN oY oG oC oP oB d_hasSnapshot d_errorAt d_failedAt ++ (wS t ad oS h_count h_pitches h_wears h_slots h_borrowers h_dueDays h_contents r_count r_nextId r_ids r_borrowers r_pitches r_tolerances r_firstDays r_lastDays b_count b_hammers b_borrowers b_firstDays b_lastDays s_day s_coins s_bookingCoins s_lateCoins s_faceCosts s_broken s_lent ++ ([(ad (oL), .inl (t 3, 1, .inr (.inl out)))])), 15, (jmix_perm (bs := [wD t ad o oS oN oY oG oC oP oB d_hasSnapshot d_errorAt d_failedAt, wS t ad oS h_count h_pitches h_wears h_slots h_borrowers h_dueDays h_contents r_count r_nextId r_ids r_borrowers r_pitches r_tolerances r_firstDays r_lastDays b_count b_hammers b_borrowers b_firstDays b_lastDays s_day s_coins s_bookingCoins s_lateCoins s_faceCosts s_broken s_lent, [(ad (oL), .inl (t 3, 1, .inr (.inl out)))]]) (is := [0, 1]) (js := [2]) 3 rfl (by decide)).symm, ?_, fun q => ?_⟩
      · rw [g4_1]
        exact ⟨[{ startPc := 0, endPc := 9, handlerPc := 12, catchType := 15 }], { startPc := 0, endPc := 9, handlerPc := 15, catchType := 34 }, [], "java/util/NoSuchElementException", rfl, List.forall_mem_cons.mpr ⟨⟨by decide, "java/lang/IndexOutOfBoundsException", q599, List.mem_of_getElem? (i := 28) rfl⟩, fun _ h => absurd h List.not_mem_nil⟩, by decide, by decide, q691, q406, rfl⟩
      · change J X 2 12 (wD t ad o oS oN oY oG oC oP oB d_hasSnapshot d_errorAt d_failedAt ++ (wS t ad oS h_count h_pitches h_wears h_slots h_borrowers h_dueDays h_contents r_count r_nextId r_ids r_borrowers r_pitches r_tolerances r_firstDays r_lastDays b_count b_hammers b_borrowers b_firstDays b_lastDays s_day s_coins s_bookingCoins s_lateCoins s_faceCosts s_broken s_lent ++ ([(ad (oL), .inl (t 3, 1, .inr (.inl out)))]))) 15 [(0, .ref (ad o)), (1, .int a1), (2, .ref (ad oL))] [.ref q]
        refine j_astore_n hX [(3, .ref q), (0, .ref (ad o)), (1, .int a1), (2, .ref (ad oL))] dL_placeOf_15 rfl (by decide) rfl ?_
        refine j_iconst hX 2 dL_placeOf_16 (by decide) ?_
        cases hf
        exact j_iret hX hE dL_placeOf_17 (Nat.le_of_ble_eq_true rfl) (Nat.le_of_ble_eq_true rfl) ⟨rfl, rfl⟩
    have hf := jifn hf g4_1
    cases hf
  · obtain ⟨r3, rfl, rfl, rfl⟩ := hvw
    have hf := jsum_r hf
    change J X 2 12 ((wD t ad o oS oN oY oG oC oP oB d_hasSnapshot d_errorAt d_failedAt ++ (wS t ad oS h_count h_pitches h_wears h_slots h_borrowers h_dueDays h_contents r_count r_nextId r_ids r_borrowers r_pitches r_tolerances r_firstDays r_lastDays b_count b_hammers b_borrowers b_firstDays b_lastDays s_day s_coins s_bookingCoins s_lateCoins s_faceCosts s_broken s_lent)) ++ ([(ad (oL), .inl (t 3, 1, .inr (.inl out)))])) 7 [(0, .ref (ad o)), (1, .int a1), (2, .ref (ad oL))] [.int r3, .int 0, .ref (ad oL)]
    refine hmix [wD t ad o oS oN oY oG oC oP oB d_hasSnapshot d_errorAt d_failedAt, wS t ad oS h_count h_pitches h_wears h_slots h_borrowers h_dueDays h_contents r_count r_nextId r_ids r_borrowers r_pitches r_tolerances r_firstDays r_lastDays b_count b_hammers b_borrowers b_firstDays b_lastDays s_day s_coins s_bookingCoins s_lateCoins s_faceCosts s_broken s_lent, [(ad (oL), .inl (t 3, 1, .inr (.inl out)))]] _ _ _ _ _ rfl ?_
    change J X 2 12 (wD t ad o oS oN oY oG oC oP oB d_hasSnapshot d_errorAt d_failedAt ++ (wS t ad oS h_count h_pitches h_wears h_slots h_borrowers h_dueDays h_contents r_count r_nextId r_ids r_borrowers r_pitches r_tolerances r_firstDays r_lastDays b_count b_hammers b_borrowers b_firstDays b_lastDays s_day s_coins s_bookingCoins s_lateCoins s_faceCosts s_broken s_lent ++ ([(ad (oL), .inl (t 3, 1, .inr (.inl out)))]))) 7 [(0, .ref (ad o)), (1, .int a1), (2, .ref (ad oL))] [.int r3, .int 0, .ref (ad oL)]
    refine j_i2l hX dL_placeOf_7 ?_
    refine j_last hX (wD t ad o oS oN oY oG oC oP oB d_hasSnapshot d_errorAt d_failedAt ++ (wS t ad oS h_count h_pitches h_wears h_slots h_borrowers h_dueDays h_contents r_count r_nextId r_ids r_borrowers r_pitches r_tolerances r_firstDays r_lastDays b_count b_hammers b_borrowers b_firstDays b_lastDays s_day s_coins s_bookingCoins s_lateCoins s_faceCosts s_broken s_lent ++ ([(ad (oL), .inl (t 3, 1, .inr (.inl (vp_updL out (0 : Int32).toNatClampNeg ((r3).toInt64)))))]))) dL_placeOf_8 21 3 rfl rfl rfl hf (fun c8 hf => ?_)
    refine j_goto hX 18 dL_placeOf_9 (by decide) ?_
    refine j_iconst hX 0 dL_placeOf_18 (by decide) ?_
    cases hf
    exact j_iret hX hE dL_placeOf_19 (Nat.le_of_ble_eq_true rfl) (Nat.le_of_ble_eq_true rfl) ⟨rfl, rfl⟩
-- HammerDepotLaw hammerAt (LHammerDepot;II[J)I
def f_L_hammerAt (h_contents : Nat → Int32) (out : Nat → Int64) (a1 : Int32) (a2 : Int32) : Option (Int32 × (Nat → Int64)) :=
  Option.bind (f_X9_hammerAt h_contents a1 a2) (fun u1 => Sum.elim (fun x4 => if x4 = "java/lang/IndexOutOfBoundsException" then
    some (1, out)
  else
    if x4 = "java/util/NoSuchElementException" then
      some (2, out)
    else
      none) (fun r3 =>
    if jin 0 1 = true then
      some (0, vp_updL out (0 : Int32).toNatClampNeg ((r3).toInt64))
    else none) u1)
set_option maxHeartbeats 4000000 in
set_option maxRecDepth 100000 in
theorem k_L_hammerAt {l : Launch} {D : va_G} {t : Nat → ClassId} {ad : Nat → Nat} {o oS oN oY oG oC oP oB oL : Nat} (hl : l.stackTraces = false) (d_hasSnapshot : Int32) (d_errorAt : Int32) (d_failedAt : Int32) (h_count : Int32) (h_pitches : Nat → Int32) (h_wears : Nat → Int32) (h_slots : Nat → Int32) (h_borrowers : Nat → Int32) (h_dueDays : Nat → Int32) (h_contents : Nat → Int32) (r_count : Int32) (r_nextId : Int32) (r_ids : Nat → Int32) (r_borrowers : Nat → Int32) (r_pitches : Nat → Int32) (r_tolerances : Nat → Int32) (r_firstDays : Nat → Int32) (r_lastDays : Nat → Int32) (b_count : Int32) (b_hammers : Nat → Int32) (b_borrowers : Nat → Int32) (b_firstDays : Nat → Int32) (b_lastDays : Nat → Int32) (s_day : Int32) (s_coins : Int32) (s_bookingCoins : Int32) (s_lateCoins : Int32) (s_faceCosts : Int32) (s_broken : Int32) (s_lent : Int32) (out : Nat → Int64) (a1 : Int32) (a2 : Int32) (u : Int32 × (Nat → Int64)) (hf : f_L_hammerAt h_contents out a1 a2 = some u) : cmh l D (jT t) yL_hammerAt cL_hammerAt 5 (some FieldType.int) [(0, 10, 13, 15), (0, 10, 17, 34)] { frames := 7, cells := 1, slots := 6, locals := 113 } [.ref (ad o), .int a1, .int a2, .ref (ad oL)] (wD t ad o oS oN oY oG oC oP oB d_hasSnapshot d_errorAt d_failedAt ++ (wS t ad oS h_count h_pitches h_wears h_slots h_borrowers h_dueDays h_contents r_count r_nextId r_ids r_borrowers r_pitches r_tolerances r_firstDays r_lastDays b_count b_hammers b_borrowers b_firstDays b_lastDays s_day s_coins s_bookingCoins s_lateCoins s_faceCosts s_broken s_lent ++ ([(ad (oL), .inl (t 3, 1, .inr (.inl out)))]))) (fun v w => v = (some (.int u.1)) ∧ w = wD t ad o oS oN oY oG oC oP oB d_hasSnapshot d_errorAt d_failedAt ++ (wS t ad oS h_count h_pitches h_wears h_slots h_borrowers h_dueDays h_contents r_count r_nextId r_ids r_borrowers r_pitches r_tolerances r_firstDays r_lastDays b_count b_hammers b_borrowers b_firstDays b_lastDays s_day s_coins s_bookingCoins s_lateCoins s_faceCosts s_broken s_lent ++ ([(ad (oL), .inl (t 3, 1, .inr (.inl u.2)))]))) := by
  refine cmh_of RL rfl (by decide +kernel) (Nat.le_of_ble_eq_true rfl) (fun X hX hE hTB => ?_)
  change J X 0 0 (wD t ad o oS oN oY oG oC oP oB d_hasSnapshot d_errorAt d_failedAt ++ (wS t ad oS h_count h_pitches h_wears h_slots h_borrowers h_dueDays h_contents r_count r_nextId r_ids r_borrowers r_pitches r_tolerances r_firstDays r_lastDays b_count b_hammers b_borrowers b_firstDays b_lastDays s_day s_coins s_bookingCoins s_lateCoins s_faceCosts s_broken s_lent ++ ([(ad (oL), .inl (t 3, 1, .inr (.inl out)))]))) 0 [(0, .ref (ad o)), (1, .int a1), (2, .int a2), (3, .ref (ad oL))] []
  unfold f_L_hammerAt at hf
  refine j_aload_n hX dL_hammerAt_0 rfl 3 rfl ?_
  refine j_iconst hX 0 dL_hammerAt_1 (by decide) ?_
  refine j_aload_n hX dL_hammerAt_2 rfl 0 rfl ?_
  refine j_iload_n hX dL_hammerAt_3 rfl 1 rfl ?_
  refine j_iload_n hX dL_hammerAt_4 rfl 2 rfl ?_
  obtain ⟨u1, h2, hf⟩ := jbind hf
  refine j_mix hX [wD t ad o oS oN oY oG oC oP oB d_hasSnapshot d_errorAt d_failedAt, wS t ad oS h_count h_pitches h_wears h_slots h_borrowers h_dueDays h_contents r_count r_nextId r_ids r_borrowers r_pitches r_tolerances r_firstDays r_lastDays b_count b_hammers b_borrowers b_firstDays b_lastDays s_day s_coins s_bookingCoins s_lateCoins s_faceCosts s_broken s_lent, [(ad (oL), .inl (t 3, 1, .inr (.inl out)))]] [0, 1] [2] 3 rfl (by decide) rfl (fun hmix => ?_)
  refine j_callVXC (a := 0) (b := 0) (st := [.int 0, .ref (ad oL)]) hX hTB (k_X9_hammerAt (l := l) (D := D) (t := t) (ad := ad) (o := o) (oS := oS) (oN := oN) (oY := oY) (oG := oG) (oC := oC) (oP := oP) (oB := oB) hl d_hasSnapshot d_errorAt d_failedAt h_count h_pitches h_wears h_slots h_borrowers h_dueDays h_contents r_count r_nextId r_ids r_borrowers r_pitches r_tolerances r_firstDays r_lastDays b_count b_hammers b_borrowers b_firstDays b_lastDays s_day s_coins s_bookingCoins s_lateCoins s_faceCosts s_broken s_lent a1 a2 u1 h2) q871 q872 q873 q1 q874 (n9 := 2) rfl ⟨by decide +kernel, by decide +kernel⟩ 0 rfl rfl rfl dL_hammerAt_5 (Nat.le_of_ble_eq_true rfl) ⟨by decide, by decide⟩ (fun w : va_W => w ++ ([(ad (oL), .inl (t 3, 1, .inr (.inl out)))])) (jFr_r _) rfl rfl (fun E w hxw => ?_) (fun v w hvw => ?_)
  · obtain ⟨x4, rfl, hE4, rfl⟩ := hxw
    have hE4 := hE4.symm
    subst hE4
    have hf := jsum_l hf
    by_cases g5_0 : x4 = "java/lang/IndexOutOfBoundsException"
    · have hf := jifp hf g5_0
      refine ⟨wD t ad o oS oN oY oG oC oP oB d_hasSnapshot d_errorAt d_failedAt ++ (wS t ad oS h_count h_pitches h_wears h_slots h_borrowers h_dueDays h_contents r_count r_nextId r_ids r_borrowers r_pitches r_tolerances r_firstDays r_lastDays b_count b_hammers b_borrowers b_firstDays b_lastDays s_day s_coins s_bookingCoins s_lateCoins s_faceCosts s_broken s_lent ++ ([(ad (oL), .inl (t 3, 1, .inr (.inl out)))])), 13, (jmix_perm (bs := [wD t ad o oS oN oY oG oC oP oB d_hasSnapshot d_errorAt d_failedAt, wS t ad oS h_count h_pitches h_wears h_slots h_borrowers h_dueDays h_contents r_count r_nextId r_ids r_borrowers r_pitches r_tolerances r_firstDays r_lastDays b_count b_hammers b_borrowers b_firstDays b_lastDays s_day s_coins s_bookingCoins s_lateCoins s_faceCosts s_broken s_lent, [(ad (oL), .inl (t 3, 1, .inr (.inl out)))]]) (is := [0, 1]) (js := [2]) 3 rfl (by decide)).symm, ?_, fun q => ?_⟩
      · rw [g5_0]
        exact ⟨[], { startPc := 0, endPc := 10, handlerPc := 13, catchType := 15 }, [{ startPc := 0, endPc := 10, handlerPc := 17, catchType := 34 }], "java/lang/IndexOutOfBoundsException", rfl, fun _ h => absurd h List.not_mem_nil, by decide, by decide, q599, q390, rfl⟩
      · change J X 1 6 (wD t ad o oS oN oY oG oC oP oB d_hasSnapshot d_errorAt d_failedAt ++ (wS t ad oS h_count h_pitches h_wears h_slots h_borrowers h_dueDays h_contents r_count r_nextId r_ids r_borrowers r_pitches r_tolerances r_firstDays r_lastDays b_count b_hammers b_borrowers b_firstDays b_lastDays s_day s_coins s_bookingCoins s_lateCoins s_faceCosts s_broken s_lent ++ ([(ad (oL), .inl (t 3, 1, .inr (.inl out)))]))) 13 [(0, .ref (ad o)), (1, .int a1), (2, .int a2), (3, .ref (ad oL))] [.ref q]
        refine j_astore hX [(4, .ref q), (0, .ref (ad o)), (1, .int a1), (2, .int a2), (3, .ref (ad oL))] dL_hammerAt_13 (by decide) rfl ?_
        refine j_iconst hX 1 dL_hammerAt_15 (by decide) ?_
        cases hf
        exact j_iret hX hE dL_hammerAt_16 (Nat.le_of_ble_eq_true rfl) (Nat.le_of_ble_eq_true rfl) ⟨rfl, rfl⟩
    have hf := jifn hf g5_0
    by_cases g5_1 : x4 = "java/util/NoSuchElementException"
    · have hf := jifp hf g5_1
      refine ⟨wD t ad o oS oN oY oG oC oP oB d_hasSnapshot d_errorAt d_failedAt ++ (wS t ad oS h_count h_pitches h_wears h_slots h_borrowers h_dueDays h_contents r_count r_nextId r_ids r_borrowers r_pitches r_tolerances r_firstDays r_lastDays b_count b_hammers b_borrowers b_firstDays b_lastDays s_day s_coins s_bookingCoins s_lateCoins s_faceCosts s_broken s_lent ++ ([(ad (oL), .inl (t 3, 1, .inr (.inl out)))])), 17, (jmix_perm (bs := [wD t ad o oS oN oY oG oC oP oB d_hasSnapshot d_errorAt d_failedAt, wS t ad oS h_count h_pitches h_wears h_slots h_borrowers h_dueDays h_contents r_count r_nextId r_ids r_borrowers r_pitches r_tolerances r_firstDays r_lastDays b_count b_hammers b_borrowers b_firstDays b_lastDays s_day s_coins s_bookingCoins s_lateCoins s_faceCosts s_broken s_lent, [(ad (oL), .inl (t 3, 1, .inr (.inl out)))]]) (is := [0, 1]) (js := [2]) 3 rfl (by decide)).symm, ?_, fun q => ?_⟩
      · rw [g5_1]
        exact ⟨[{ startPc := 0, endPc := 10, handlerPc := 13, catchType := 15 }], { startPc := 0, endPc := 10, handlerPc := 17, catchType := 34 }, [], "java/util/NoSuchElementException", rfl, List.forall_mem_cons.mpr ⟨⟨by decide, "java/lang/IndexOutOfBoundsException", q599, List.mem_of_getElem? (i := 28) rfl⟩, fun _ h => absurd h List.not_mem_nil⟩, by decide, by decide, q691, q406, rfl⟩
      · change J X 1 6 (wD t ad o oS oN oY oG oC oP oB d_hasSnapshot d_errorAt d_failedAt ++ (wS t ad oS h_count h_pitches h_wears h_slots h_borrowers h_dueDays h_contents r_count r_nextId r_ids r_borrowers r_pitches r_tolerances r_firstDays r_lastDays b_count b_hammers b_borrowers b_firstDays b_lastDays s_day s_coins s_bookingCoins s_lateCoins s_faceCosts s_broken s_lent ++ ([(ad (oL), .inl (t 3, 1, .inr (.inl out)))]))) 17 [(0, .ref (ad o)), (1, .int a1), (2, .int a2), (3, .ref (ad oL))] [.ref q]
        refine j_astore hX [(4, .ref q), (0, .ref (ad o)), (1, .int a1), (2, .int a2), (3, .ref (ad oL))] dL_hammerAt_17 (by decide) rfl ?_
        refine j_iconst hX 2 dL_hammerAt_19 (by decide) ?_
        cases hf
        exact j_iret hX hE dL_hammerAt_20 (Nat.le_of_ble_eq_true rfl) (Nat.le_of_ble_eq_true rfl) ⟨rfl, rfl⟩
    have hf := jifn hf g5_1
    cases hf
  · obtain ⟨r3, rfl, rfl, rfl⟩ := hvw
    have hf := jsum_r hf
    change J X 1 6 ((wD t ad o oS oN oY oG oC oP oB d_hasSnapshot d_errorAt d_failedAt ++ (wS t ad oS h_count h_pitches h_wears h_slots h_borrowers h_dueDays h_contents r_count r_nextId r_ids r_borrowers r_pitches r_tolerances r_firstDays r_lastDays b_count b_hammers b_borrowers b_firstDays b_lastDays s_day s_coins s_bookingCoins s_lateCoins s_faceCosts s_broken s_lent)) ++ ([(ad (oL), .inl (t 3, 1, .inr (.inl out)))])) 8 [(0, .ref (ad o)), (1, .int a1), (2, .int a2), (3, .ref (ad oL))] [.int r3, .int 0, .ref (ad oL)]
    refine hmix [wD t ad o oS oN oY oG oC oP oB d_hasSnapshot d_errorAt d_failedAt, wS t ad oS h_count h_pitches h_wears h_slots h_borrowers h_dueDays h_contents r_count r_nextId r_ids r_borrowers r_pitches r_tolerances r_firstDays r_lastDays b_count b_hammers b_borrowers b_firstDays b_lastDays s_day s_coins s_bookingCoins s_lateCoins s_faceCosts s_broken s_lent, [(ad (oL), .inl (t 3, 1, .inr (.inl out)))]] _ _ _ _ _ rfl ?_
    change J X 1 6 (wD t ad o oS oN oY oG oC oP oB d_hasSnapshot d_errorAt d_failedAt ++ (wS t ad oS h_count h_pitches h_wears h_slots h_borrowers h_dueDays h_contents r_count r_nextId r_ids r_borrowers r_pitches r_tolerances r_firstDays r_lastDays b_count b_hammers b_borrowers b_firstDays b_lastDays s_day s_coins s_bookingCoins s_lateCoins s_faceCosts s_broken s_lent ++ ([(ad (oL), .inl (t 3, 1, .inr (.inl out)))]))) 8 [(0, .ref (ad o)), (1, .int a1), (2, .int a2), (3, .ref (ad oL))] [.int r3, .int 0, .ref (ad oL)]
    refine j_i2l hX dL_hammerAt_8 ?_
    refine j_last hX (wD t ad o oS oN oY oG oC oP oB d_hasSnapshot d_errorAt d_failedAt ++ (wS t ad oS h_count h_pitches h_wears h_slots h_borrowers h_dueDays h_contents r_count r_nextId r_ids r_borrowers r_pitches r_tolerances r_firstDays r_lastDays b_count b_hammers b_borrowers b_firstDays b_lastDays s_day s_coins s_bookingCoins s_lateCoins s_faceCosts s_broken s_lent ++ ([(ad (oL), .inl (t 3, 1, .inr (.inl (vp_updL out (0 : Int32).toNatClampNeg ((r3).toInt64)))))]))) dL_hammerAt_9 21 3 rfl rfl rfl hf (fun c9 hf => ?_)
    refine j_goto hX 21 dL_hammerAt_10 (by decide) ?_
    refine j_iconst hX 0 dL_hammerAt_21 (by decide) ?_
    cases hf
    exact j_iret hX hE dL_hammerAt_22 (Nat.le_of_ble_eq_true rfl) (Nat.le_of_ble_eq_true rfl) ⟨rfl, rfl⟩
-- HammerDepotLaw bookings (LHammerDepot;I[J)I
def f_L_bookings (h_count : Int32) (b_count : Int32) (b_hammers : Nat → Int32) (out : Nat → Int64) (a1 : Int32) : Option (Int32 × (Nat → Int64)) :=
  Option.bind (f_X9_bookings h_count b_count b_hammers a1) (fun u1 => Sum.elim (fun x4 => if x4 = "java/lang/IndexOutOfBoundsException" then
    some (1, out)
  else
    none) (fun r3 =>
    if jin 0 1 = true then
      some (0, vp_updL out (0 : Int32).toNatClampNeg ((r3).toInt64))
    else none) u1)
set_option maxHeartbeats 4000000 in
set_option maxRecDepth 100000 in
theorem k_L_bookings {l : Launch} {D : va_G} {t : Nat → ClassId} {ad : Nat → Nat} {o oS oN oY oG oC oP oB oL : Nat} (hl : l.stackTraces = false) (d_hasSnapshot : Int32) (d_errorAt : Int32) (d_failedAt : Int32) (h_count : Int32) (h_pitches : Nat → Int32) (h_wears : Nat → Int32) (h_slots : Nat → Int32) (h_borrowers : Nat → Int32) (h_dueDays : Nat → Int32) (h_contents : Nat → Int32) (r_count : Int32) (r_nextId : Int32) (r_ids : Nat → Int32) (r_borrowers : Nat → Int32) (r_pitches : Nat → Int32) (r_tolerances : Nat → Int32) (r_firstDays : Nat → Int32) (r_lastDays : Nat → Int32) (b_count : Int32) (b_hammers : Nat → Int32) (b_borrowers : Nat → Int32) (b_firstDays : Nat → Int32) (b_lastDays : Nat → Int32) (s_day : Int32) (s_coins : Int32) (s_bookingCoins : Int32) (s_lateCoins : Int32) (s_faceCosts : Int32) (s_broken : Int32) (s_lent : Int32) (out : Nat → Int64) (a1 : Int32) (u : Int32 × (Nat → Int64)) (hf : f_L_bookings h_count b_count b_hammers out a1 = some u) : cmh l D (jT t) yL_bookings cL_bookings 4 (some FieldType.int) [(0, 9, 12, 15)] { frames := 8, cells := 1, slots := 6, locals := 132 } [.ref (ad o), .int a1, .ref (ad oL)] (wD t ad o oS oN oY oG oC oP oB d_hasSnapshot d_errorAt d_failedAt ++ (wS t ad oS h_count h_pitches h_wears h_slots h_borrowers h_dueDays h_contents r_count r_nextId r_ids r_borrowers r_pitches r_tolerances r_firstDays r_lastDays b_count b_hammers b_borrowers b_firstDays b_lastDays s_day s_coins s_bookingCoins s_lateCoins s_faceCosts s_broken s_lent ++ ([(ad (oL), .inl (t 3, 1, .inr (.inl out)))]))) (fun v w => v = (some (.int u.1)) ∧ w = wD t ad o oS oN oY oG oC oP oB d_hasSnapshot d_errorAt d_failedAt ++ (wS t ad oS h_count h_pitches h_wears h_slots h_borrowers h_dueDays h_contents r_count r_nextId r_ids r_borrowers r_pitches r_tolerances r_firstDays r_lastDays b_count b_hammers b_borrowers b_firstDays b_lastDays s_day s_coins s_bookingCoins s_lateCoins s_faceCosts s_broken s_lent ++ ([(ad (oL), .inl (t 3, 1, .inr (.inl u.2)))]))) := by
  refine cmh_of RL rfl (by decide +kernel) (Nat.le_of_ble_eq_true rfl) (fun X hX hE hTB => ?_)
  change J X 0 0 (wD t ad o oS oN oY oG oC oP oB d_hasSnapshot d_errorAt d_failedAt ++ (wS t ad oS h_count h_pitches h_wears h_slots h_borrowers h_dueDays h_contents r_count r_nextId r_ids r_borrowers r_pitches r_tolerances r_firstDays r_lastDays b_count b_hammers b_borrowers b_firstDays b_lastDays s_day s_coins s_bookingCoins s_lateCoins s_faceCosts s_broken s_lent ++ ([(ad (oL), .inl (t 3, 1, .inr (.inl out)))]))) 0 [(0, .ref (ad o)), (1, .int a1), (2, .ref (ad oL))] []
  unfold f_L_bookings at hf
  refine j_aload_n hX dL_bookings_0 rfl 2 rfl ?_
  refine j_iconst hX 0 dL_bookings_1 (by decide) ?_
  refine j_aload_n hX dL_bookings_2 rfl 0 rfl ?_
  refine j_iload_n hX dL_bookings_3 rfl 1 rfl ?_
  obtain ⟨u1, h2, hf⟩ := jbind hf
  refine j_mix hX [wD t ad o oS oN oY oG oC oP oB d_hasSnapshot d_errorAt d_failedAt, wS t ad oS h_count h_pitches h_wears h_slots h_borrowers h_dueDays h_contents r_count r_nextId r_ids r_borrowers r_pitches r_tolerances r_firstDays r_lastDays b_count b_hammers b_borrowers b_firstDays b_lastDays s_day s_coins s_bookingCoins s_lateCoins s_faceCosts s_broken s_lent, [(ad (oL), .inl (t 3, 1, .inr (.inl out)))]] [0, 1] [2] 3 rfl (by decide) rfl (fun hmix => ?_)
  refine j_callVXC (a := 0) (b := 0) (st := [.int 0, .ref (ad oL)]) hX hTB (k_X9_bookings (l := l) (D := D) (t := t) (ad := ad) (o := o) (oS := oS) (oN := oN) (oY := oY) (oG := oG) (oC := oC) (oP := oP) (oB := oB) hl d_hasSnapshot d_errorAt d_failedAt h_count h_pitches h_wears h_slots h_borrowers h_dueDays h_contents r_count r_nextId r_ids r_borrowers r_pitches r_tolerances r_firstDays r_lastDays b_count b_hammers b_borrowers b_firstDays b_lastDays s_day s_coins s_bookingCoins s_lateCoins s_faceCosts s_broken s_lent a1 u1 h2) q881 q882 q883 q1 q884 (n9 := 1) rfl ⟨by decide +kernel, by decide +kernel⟩ 0 rfl rfl rfl dL_bookings_4 (Nat.le_of_ble_eq_true rfl) ⟨by decide, by decide⟩ (fun w : va_W => w ++ ([(ad (oL), .inl (t 3, 1, .inr (.inl out)))])) (jFr_r _) rfl rfl (fun E w hxw => ?_) (fun v w hvw => ?_)
  · obtain ⟨x4, rfl, hE4, rfl⟩ := hxw
    have hE4 := hE4.symm
    subst hE4
    have hf := jsum_l hf
    by_cases g4_0 : x4 = "java/lang/IndexOutOfBoundsException"
    · have hf := jifp hf g4_0
      refine ⟨wD t ad o oS oN oY oG oC oP oB d_hasSnapshot d_errorAt d_failedAt ++ (wS t ad oS h_count h_pitches h_wears h_slots h_borrowers h_dueDays h_contents r_count r_nextId r_ids r_borrowers r_pitches r_tolerances r_firstDays r_lastDays b_count b_hammers b_borrowers b_firstDays b_lastDays s_day s_coins s_bookingCoins s_lateCoins s_faceCosts s_broken s_lent ++ ([(ad (oL), .inl (t 3, 1, .inr (.inl out)))])), 12, (jmix_perm (bs := [wD t ad o oS oN oY oG oC oP oB d_hasSnapshot d_errorAt d_failedAt, wS t ad oS h_count h_pitches h_wears h_slots h_borrowers h_dueDays h_contents r_count r_nextId r_ids r_borrowers r_pitches r_tolerances r_firstDays r_lastDays b_count b_hammers b_borrowers b_firstDays b_lastDays s_day s_coins s_bookingCoins s_lateCoins s_faceCosts s_broken s_lent, [(ad (oL), .inl (t 3, 1, .inr (.inl out)))]]) (is := [0, 1]) (js := [2]) 3 rfl (by decide)).symm, ?_, fun q => ?_⟩
      · rw [g4_0]
        exact ⟨[], { startPc := 0, endPc := 9, handlerPc := 12, catchType := 15 }, [], "java/lang/IndexOutOfBoundsException", rfl, fun _ h => absurd h List.not_mem_nil, by decide, by decide, q599, q390, rfl⟩
      · change J X 1 6 (wD t ad o oS oN oY oG oC oP oB d_hasSnapshot d_errorAt d_failedAt ++ (wS t ad oS h_count h_pitches h_wears h_slots h_borrowers h_dueDays h_contents r_count r_nextId r_ids r_borrowers r_pitches r_tolerances r_firstDays r_lastDays b_count b_hammers b_borrowers b_firstDays b_lastDays s_day s_coins s_bookingCoins s_lateCoins s_faceCosts s_broken s_lent ++ ([(ad (oL), .inl (t 3, 1, .inr (.inl out)))]))) 12 [(0, .ref (ad o)), (1, .int a1), (2, .ref (ad oL))] [.ref q]
        refine j_astore_n hX [(3, .ref q), (0, .ref (ad o)), (1, .int a1), (2, .ref (ad oL))] dL_bookings_12 rfl (by decide) rfl ?_
        refine j_iconst hX 1 dL_bookings_13 (by decide) ?_
        cases hf
        exact j_iret hX hE dL_bookings_14 (Nat.le_of_ble_eq_true rfl) (Nat.le_of_ble_eq_true rfl) ⟨rfl, rfl⟩
    have hf := jifn hf g4_0
    cases hf
  · obtain ⟨r3, rfl, rfl, rfl⟩ := hvw
    have hf := jsum_r hf
    change J X 1 6 ((wD t ad o oS oN oY oG oC oP oB d_hasSnapshot d_errorAt d_failedAt ++ (wS t ad oS h_count h_pitches h_wears h_slots h_borrowers h_dueDays h_contents r_count r_nextId r_ids r_borrowers r_pitches r_tolerances r_firstDays r_lastDays b_count b_hammers b_borrowers b_firstDays b_lastDays s_day s_coins s_bookingCoins s_lateCoins s_faceCosts s_broken s_lent)) ++ ([(ad (oL), .inl (t 3, 1, .inr (.inl out)))])) 7 [(0, .ref (ad o)), (1, .int a1), (2, .ref (ad oL))] [.int r3, .int 0, .ref (ad oL)]
    refine hmix [wD t ad o oS oN oY oG oC oP oB d_hasSnapshot d_errorAt d_failedAt, wS t ad oS h_count h_pitches h_wears h_slots h_borrowers h_dueDays h_contents r_count r_nextId r_ids r_borrowers r_pitches r_tolerances r_firstDays r_lastDays b_count b_hammers b_borrowers b_firstDays b_lastDays s_day s_coins s_bookingCoins s_lateCoins s_faceCosts s_broken s_lent, [(ad (oL), .inl (t 3, 1, .inr (.inl out)))]] _ _ _ _ _ rfl ?_
    change J X 1 6 (wD t ad o oS oN oY oG oC oP oB d_hasSnapshot d_errorAt d_failedAt ++ (wS t ad oS h_count h_pitches h_wears h_slots h_borrowers h_dueDays h_contents r_count r_nextId r_ids r_borrowers r_pitches r_tolerances r_firstDays r_lastDays b_count b_hammers b_borrowers b_firstDays b_lastDays s_day s_coins s_bookingCoins s_lateCoins s_faceCosts s_broken s_lent ++ ([(ad (oL), .inl (t 3, 1, .inr (.inl out)))]))) 7 [(0, .ref (ad o)), (1, .int a1), (2, .ref (ad oL))] [.int r3, .int 0, .ref (ad oL)]
    refine j_i2l hX dL_bookings_7 ?_
    refine j_last hX (wD t ad o oS oN oY oG oC oP oB d_hasSnapshot d_errorAt d_failedAt ++ (wS t ad oS h_count h_pitches h_wears h_slots h_borrowers h_dueDays h_contents r_count r_nextId r_ids r_borrowers r_pitches r_tolerances r_firstDays r_lastDays b_count b_hammers b_borrowers b_firstDays b_lastDays s_day s_coins s_bookingCoins s_lateCoins s_faceCosts s_broken s_lent ++ ([(ad (oL), .inl (t 3, 1, .inr (.inl (vp_updL out (0 : Int32).toNatClampNeg ((r3).toInt64)))))]))) dL_bookings_8 21 3 rfl rfl rfl hf (fun c8 hf => ?_)
    refine j_goto hX 15 dL_bookings_9 (by decide) ?_
    refine j_iconst hX 0 dL_bookings_15 (by decide) ?_
    cases hf
    exact j_iret hX hE dL_bookings_16 (Nat.le_of_ble_eq_true rfl) (Nat.le_of_ble_eq_true rfl) ⟨rfl, rfl⟩
-- HammerDepotLaw isBooked (LHammerDepot;II[J)I
def f_L_isBooked (h_count : Int32) (b_count : Int32) (b_hammers : Nat → Int32) (b_firstDays : Nat → Int32) (b_lastDays : Nat → Int32) (out : Nat → Int64) (a1 : Int32) (a2 : Int32) : Option (Int32 × (Nat → Int64)) :=
  Option.bind (f_X9_isBooked h_count b_count b_hammers b_firstDays b_lastDays a1 a2) (fun u1 => Sum.elim (fun x4 => if x4 = "java/lang/IndexOutOfBoundsException" then
    some (1, out)
  else
    none) (fun r3 =>
    if r3 = 0 then
      if jin 0 1 = true then
        some (0, vp_updL out (0 : Int32).toNatClampNeg (0 : Int64))
      else none
    else
      if jin 0 1 = true then
        some (0, vp_updL out (0 : Int32).toNatClampNeg (1 : Int64))
      else none) u1)
set_option maxHeartbeats 4000000 in
set_option maxRecDepth 100000 in
theorem k_L_isBooked {l : Launch} {D : va_G} {t : Nat → ClassId} {ad : Nat → Nat} {o oS oN oY oG oC oP oB oL : Nat} (hl : l.stackTraces = false) (d_hasSnapshot : Int32) (d_errorAt : Int32) (d_failedAt : Int32) (h_count : Int32) (h_pitches : Nat → Int32) (h_wears : Nat → Int32) (h_slots : Nat → Int32) (h_borrowers : Nat → Int32) (h_dueDays : Nat → Int32) (h_contents : Nat → Int32) (r_count : Int32) (r_nextId : Int32) (r_ids : Nat → Int32) (r_borrowers : Nat → Int32) (r_pitches : Nat → Int32) (r_tolerances : Nat → Int32) (r_firstDays : Nat → Int32) (r_lastDays : Nat → Int32) (b_count : Int32) (b_hammers : Nat → Int32) (b_borrowers : Nat → Int32) (b_firstDays : Nat → Int32) (b_lastDays : Nat → Int32) (s_day : Int32) (s_coins : Int32) (s_bookingCoins : Int32) (s_lateCoins : Int32) (s_faceCosts : Int32) (s_broken : Int32) (s_lent : Int32) (out : Nat → Int64) (a1 : Int32) (a2 : Int32) (u : Int32 × (Nat → Int64)) (hf : f_L_isBooked h_count b_count b_hammers b_firstDays b_lastDays out a1 a2 = some u) : cmh l D (jT t) yL_isBooked cL_isBooked 5 (some FieldType.int) [(0, 17, 20, 15)] { frames := 8, cells := 1, slots := 6, locals := 133 } [.ref (ad o), .int a1, .int a2, .ref (ad oL)] (wD t ad o oS oN oY oG oC oP oB d_hasSnapshot d_errorAt d_failedAt ++ (wS t ad oS h_count h_pitches h_wears h_slots h_borrowers h_dueDays h_contents r_count r_nextId r_ids r_borrowers r_pitches r_tolerances r_firstDays r_lastDays b_count b_hammers b_borrowers b_firstDays b_lastDays s_day s_coins s_bookingCoins s_lateCoins s_faceCosts s_broken s_lent ++ ([(ad (oL), .inl (t 3, 1, .inr (.inl out)))]))) (fun v w => v = (some (.int u.1)) ∧ w = wD t ad o oS oN oY oG oC oP oB d_hasSnapshot d_errorAt d_failedAt ++ (wS t ad oS h_count h_pitches h_wears h_slots h_borrowers h_dueDays h_contents r_count r_nextId r_ids r_borrowers r_pitches r_tolerances r_firstDays r_lastDays b_count b_hammers b_borrowers b_firstDays b_lastDays s_day s_coins s_bookingCoins s_lateCoins s_faceCosts s_broken s_lent ++ ([(ad (oL), .inl (t 3, 1, .inr (.inl u.2)))]))) := by
  refine cmh_of RL rfl (by decide +kernel) (Nat.le_of_ble_eq_true rfl) (fun X hX hE hTB => ?_)
  change J X 0 0 (wD t ad o oS oN oY oG oC oP oB d_hasSnapshot d_errorAt d_failedAt ++ (wS t ad oS h_count h_pitches h_wears h_slots h_borrowers h_dueDays h_contents r_count r_nextId r_ids r_borrowers r_pitches r_tolerances r_firstDays r_lastDays b_count b_hammers b_borrowers b_firstDays b_lastDays s_day s_coins s_bookingCoins s_lateCoins s_faceCosts s_broken s_lent ++ ([(ad (oL), .inl (t 3, 1, .inr (.inl out)))]))) 0 [(0, .ref (ad o)), (1, .int a1), (2, .int a2), (3, .ref (ad oL))] []
  unfold f_L_isBooked at hf
  refine j_aload_n hX dL_isBooked_0 rfl 3 rfl ?_
  refine j_iconst hX 0 dL_isBooked_1 (by decide) ?_
  refine j_aload_n hX dL_isBooked_2 rfl 0 rfl ?_
  refine j_iload_n hX dL_isBooked_3 rfl 1 rfl ?_
  refine j_iload_n hX dL_isBooked_4 rfl 2 rfl ?_
  obtain ⟨u1, h2, hf⟩ := jbind hf
  refine j_mix hX [wD t ad o oS oN oY oG oC oP oB d_hasSnapshot d_errorAt d_failedAt, wS t ad oS h_count h_pitches h_wears h_slots h_borrowers h_dueDays h_contents r_count r_nextId r_ids r_borrowers r_pitches r_tolerances r_firstDays r_lastDays b_count b_hammers b_borrowers b_firstDays b_lastDays s_day s_coins s_bookingCoins s_lateCoins s_faceCosts s_broken s_lent, [(ad (oL), .inl (t 3, 1, .inr (.inl out)))]] [0, 1] [2] 3 rfl (by decide) rfl (fun hmix => ?_)
  refine j_callVXC (a := 0) (b := 0) (st := [.int 0, .ref (ad oL)]) hX hTB (k_X9_isBooked (l := l) (D := D) (t := t) (ad := ad) (o := o) (oS := oS) (oN := oN) (oY := oY) (oG := oG) (oC := oC) (oP := oP) (oB := oB) hl d_hasSnapshot d_errorAt d_failedAt h_count h_pitches h_wears h_slots h_borrowers h_dueDays h_contents r_count r_nextId r_ids r_borrowers r_pitches r_tolerances r_firstDays r_lastDays b_count b_hammers b_borrowers b_firstDays b_lastDays s_day s_coins s_bookingCoins s_lateCoins s_faceCosts s_broken s_lent a1 a2 u1 h2) q892 q893 q894 q1 q895 (n9 := 2) rfl ⟨by decide +kernel, by decide +kernel⟩ 0 rfl rfl rfl dL_isBooked_5 (Nat.le_of_ble_eq_true rfl) ⟨by decide, by decide⟩ (fun w : va_W => w ++ ([(ad (oL), .inl (t 3, 1, .inr (.inl out)))])) (jFr_r _) rfl rfl (fun E w hxw => ?_) (fun v w hvw => ?_)
  · obtain ⟨x4, rfl, hE4, rfl⟩ := hxw
    have hE4 := hE4.symm
    subst hE4
    have hf := jsum_l hf
    by_cases g5_0 : x4 = "java/lang/IndexOutOfBoundsException"
    · have hf := jifp hf g5_0
      refine ⟨wD t ad o oS oN oY oG oC oP oB d_hasSnapshot d_errorAt d_failedAt ++ (wS t ad oS h_count h_pitches h_wears h_slots h_borrowers h_dueDays h_contents r_count r_nextId r_ids r_borrowers r_pitches r_tolerances r_firstDays r_lastDays b_count b_hammers b_borrowers b_firstDays b_lastDays s_day s_coins s_bookingCoins s_lateCoins s_faceCosts s_broken s_lent ++ ([(ad (oL), .inl (t 3, 1, .inr (.inl out)))])), 20, (jmix_perm (bs := [wD t ad o oS oN oY oG oC oP oB d_hasSnapshot d_errorAt d_failedAt, wS t ad oS h_count h_pitches h_wears h_slots h_borrowers h_dueDays h_contents r_count r_nextId r_ids r_borrowers r_pitches r_tolerances r_firstDays r_lastDays b_count b_hammers b_borrowers b_firstDays b_lastDays s_day s_coins s_bookingCoins s_lateCoins s_faceCosts s_broken s_lent, [(ad (oL), .inl (t 3, 1, .inr (.inl out)))]]) (is := [0, 1]) (js := [2]) 3 rfl (by decide)).symm, ?_, fun q => ?_⟩
      · rw [g5_0]
        exact ⟨[], { startPc := 0, endPc := 17, handlerPc := 20, catchType := 15 }, [], "java/lang/IndexOutOfBoundsException", rfl, fun _ h => absurd h List.not_mem_nil, by decide, by decide, q599, q390, rfl⟩
      · change J X 1 6 (wD t ad o oS oN oY oG oC oP oB d_hasSnapshot d_errorAt d_failedAt ++ (wS t ad oS h_count h_pitches h_wears h_slots h_borrowers h_dueDays h_contents r_count r_nextId r_ids r_borrowers r_pitches r_tolerances r_firstDays r_lastDays b_count b_hammers b_borrowers b_firstDays b_lastDays s_day s_coins s_bookingCoins s_lateCoins s_faceCosts s_broken s_lent ++ ([(ad (oL), .inl (t 3, 1, .inr (.inl out)))]))) 20 [(0, .ref (ad o)), (1, .int a1), (2, .int a2), (3, .ref (ad oL))] [.ref q]
        refine j_astore hX [(4, .ref q), (0, .ref (ad o)), (1, .int a1), (2, .int a2), (3, .ref (ad oL))] dL_isBooked_20 (by decide) rfl ?_
        refine j_iconst hX 1 dL_isBooked_22 (by decide) ?_
        cases hf
        exact j_iret hX hE dL_isBooked_23 (Nat.le_of_ble_eq_true rfl) (Nat.le_of_ble_eq_true rfl) ⟨rfl, rfl⟩
    have hf := jifn hf g5_0
    cases hf
  · obtain ⟨r3, rfl, rfl, rfl⟩ := hvw
    have hf := jsum_r hf
    change J X 1 6 ((wD t ad o oS oN oY oG oC oP oB d_hasSnapshot d_errorAt d_failedAt ++ (wS t ad oS h_count h_pitches h_wears h_slots h_borrowers h_dueDays h_contents r_count r_nextId r_ids r_borrowers r_pitches r_tolerances r_firstDays r_lastDays b_count b_hammers b_borrowers b_firstDays b_lastDays s_day s_coins s_bookingCoins s_lateCoins s_faceCosts s_broken s_lent)) ++ ([(ad (oL), .inl (t 3, 1, .inr (.inl out)))])) 8 [(0, .ref (ad o)), (1, .int a1), (2, .int a2), (3, .ref (ad oL))] [.int r3, .int 0, .ref (ad oL)]
    refine hmix [wD t ad o oS oN oY oG oC oP oB d_hasSnapshot d_errorAt d_failedAt, wS t ad oS h_count h_pitches h_wears h_slots h_borrowers h_dueDays h_contents r_count r_nextId r_ids r_borrowers r_pitches r_tolerances r_firstDays r_lastDays b_count b_hammers b_borrowers b_firstDays b_lastDays s_day s_coins s_bookingCoins s_lateCoins s_faceCosts s_broken s_lent, [(ad (oL), .inl (t 3, 1, .inr (.inl out)))]] _ _ _ _ _ rfl ?_
    change J X 1 6 (wD t ad o oS oN oY oG oC oP oB d_hasSnapshot d_errorAt d_failedAt ++ (wS t ad oS h_count h_pitches h_wears h_slots h_borrowers h_dueDays h_contents r_count r_nextId r_ids r_borrowers r_pitches r_tolerances r_firstDays r_lastDays b_count b_hammers b_borrowers b_firstDays b_lastDays s_day s_coins s_bookingCoins s_lateCoins s_faceCosts s_broken s_lent ++ ([(ad (oL), .inl (t 3, 1, .inr (.inl out)))]))) 8 [(0, .ref (ad o)), (1, .int a1), (2, .int a2), (3, .ref (ad oL))] [.int r3, .int 0, .ref (ad oL)]
    refine j_if_eq hX 15 dL_isBooked_8 (by decide) hf (fun c8 hf => ?_) (fun c8 hf => ?_)
    · refine j_lconst hX 0 dL_isBooked_15 (by decide) ?_
      refine j_last hX (wD t ad o oS oN oY oG oC oP oB d_hasSnapshot d_errorAt d_failedAt ++ (wS t ad oS h_count h_pitches h_wears h_slots h_borrowers h_dueDays h_contents r_count r_nextId r_ids r_borrowers r_pitches r_tolerances r_firstDays r_lastDays b_count b_hammers b_borrowers b_firstDays b_lastDays s_day s_coins s_bookingCoins s_lateCoins s_faceCosts s_broken s_lent ++ ([(ad (oL), .inl (t 3, 1, .inr (.inl (vp_updL out (0 : Int32).toNatClampNeg (0 : Int64)))))]))) dL_isBooked_16 21 3 rfl rfl rfl hf (fun c16 hf => ?_)
      refine j_goto hX 24 dL_isBooked_17 (by decide) ?_
      refine j_iconst hX 0 dL_isBooked_24 (by decide) ?_
      cases hf
      exact j_iret hX hE dL_isBooked_25 (Nat.le_of_ble_eq_true rfl) (Nat.le_of_ble_eq_true rfl) ⟨rfl, rfl⟩
    · refine j_lconst hX 1 dL_isBooked_11 (by decide) ?_
      refine j_goto hX 16 dL_isBooked_12 (by decide) ?_
      refine j_last hX (wD t ad o oS oN oY oG oC oP oB d_hasSnapshot d_errorAt d_failedAt ++ (wS t ad oS h_count h_pitches h_wears h_slots h_borrowers h_dueDays h_contents r_count r_nextId r_ids r_borrowers r_pitches r_tolerances r_firstDays r_lastDays b_count b_hammers b_borrowers b_firstDays b_lastDays s_day s_coins s_bookingCoins s_lateCoins s_faceCosts s_broken s_lent ++ ([(ad (oL), .inl (t 3, 1, .inr (.inl (vp_updL out (0 : Int32).toNatClampNeg (1 : Int64)))))]))) dL_isBooked_16 21 3 rfl rfl rfl hf (fun c16 hf => ?_)
      refine j_goto hX 24 dL_isBooked_17 (by decide) ?_
      refine j_iconst hX 0 dL_isBooked_24 (by decide) ?_
      cases hf
      exact j_iret hX hE dL_isBooked_25 (Nat.le_of_ble_eq_true rfl) (Nat.le_of_ble_eq_true rfl) ⟨rfl, rfl⟩
-- HammerDepotLaw requestAt (LHammerDepot;I[J)I
def f_L_requestAt (r_count : Int32) (r_ids : Nat → Int32) (out : Nat → Int64) (a1 : Int32) : Option (Int32 × (Nat → Int64)) :=
  Option.bind (f_X9_requestAt r_count r_ids a1) (fun u1 => Sum.elim (fun x4 => if x4 = "java/util/NoSuchElementException" then
    some (1, out)
  else
    none) (fun r3 =>
    if jin 0 1 = true then
      some (0, vp_updL out (0 : Int32).toNatClampNeg ((r3).toInt64))
    else none) u1)
set_option maxHeartbeats 4000000 in
set_option maxRecDepth 100000 in
theorem k_L_requestAt {l : Launch} {D : va_G} {t : Nat → ClassId} {ad : Nat → Nat} {o oS oN oY oG oC oP oB oL : Nat} (hl : l.stackTraces = false) (d_hasSnapshot : Int32) (d_errorAt : Int32) (d_failedAt : Int32) (h_count : Int32) (h_pitches : Nat → Int32) (h_wears : Nat → Int32) (h_slots : Nat → Int32) (h_borrowers : Nat → Int32) (h_dueDays : Nat → Int32) (h_contents : Nat → Int32) (r_count : Int32) (r_nextId : Int32) (r_ids : Nat → Int32) (r_borrowers : Nat → Int32) (r_pitches : Nat → Int32) (r_tolerances : Nat → Int32) (r_firstDays : Nat → Int32) (r_lastDays : Nat → Int32) (b_count : Int32) (b_hammers : Nat → Int32) (b_borrowers : Nat → Int32) (b_firstDays : Nat → Int32) (b_lastDays : Nat → Int32) (s_day : Int32) (s_coins : Int32) (s_bookingCoins : Int32) (s_lateCoins : Int32) (s_faceCosts : Int32) (s_broken : Int32) (s_lent : Int32) (out : Nat → Int64) (a1 : Int32) (u : Int32 × (Nat → Int64)) (hf : f_L_requestAt r_count r_ids out a1 = some u) : cmh l D (jT t) yL_requestAt cL_requestAt 4 (some FieldType.int) [(0, 9, 12, 34)] { frames := 7, cells := 1, slots := 6, locals := 111 } [.ref (ad o), .int a1, .ref (ad oL)] (wD t ad o oS oN oY oG oC oP oB d_hasSnapshot d_errorAt d_failedAt ++ (wS t ad oS h_count h_pitches h_wears h_slots h_borrowers h_dueDays h_contents r_count r_nextId r_ids r_borrowers r_pitches r_tolerances r_firstDays r_lastDays b_count b_hammers b_borrowers b_firstDays b_lastDays s_day s_coins s_bookingCoins s_lateCoins s_faceCosts s_broken s_lent ++ ([(ad (oL), .inl (t 3, 1, .inr (.inl out)))]))) (fun v w => v = (some (.int u.1)) ∧ w = wD t ad o oS oN oY oG oC oP oB d_hasSnapshot d_errorAt d_failedAt ++ (wS t ad oS h_count h_pitches h_wears h_slots h_borrowers h_dueDays h_contents r_count r_nextId r_ids r_borrowers r_pitches r_tolerances r_firstDays r_lastDays b_count b_hammers b_borrowers b_firstDays b_lastDays s_day s_coins s_bookingCoins s_lateCoins s_faceCosts s_broken s_lent ++ ([(ad (oL), .inl (t 3, 1, .inr (.inl u.2)))]))) := by
  refine cmh_of RL rfl (by decide +kernel) (Nat.le_of_ble_eq_true rfl) (fun X hX hE hTB => ?_)
  change J X 0 0 (wD t ad o oS oN oY oG oC oP oB d_hasSnapshot d_errorAt d_failedAt ++ (wS t ad oS h_count h_pitches h_wears h_slots h_borrowers h_dueDays h_contents r_count r_nextId r_ids r_borrowers r_pitches r_tolerances r_firstDays r_lastDays b_count b_hammers b_borrowers b_firstDays b_lastDays s_day s_coins s_bookingCoins s_lateCoins s_faceCosts s_broken s_lent ++ ([(ad (oL), .inl (t 3, 1, .inr (.inl out)))]))) 0 [(0, .ref (ad o)), (1, .int a1), (2, .ref (ad oL))] []
  unfold f_L_requestAt at hf
  refine j_aload_n hX dL_requestAt_0 rfl 2 rfl ?_
  refine j_iconst hX 0 dL_requestAt_1 (by decide) ?_
  refine j_aload_n hX dL_requestAt_2 rfl 0 rfl ?_
  refine j_iload_n hX dL_requestAt_3 rfl 1 rfl ?_
  obtain ⟨u1, h2, hf⟩ := jbind hf
  refine j_mix hX [wD t ad o oS oN oY oG oC oP oB d_hasSnapshot d_errorAt d_failedAt, wS t ad oS h_count h_pitches h_wears h_slots h_borrowers h_dueDays h_contents r_count r_nextId r_ids r_borrowers r_pitches r_tolerances r_firstDays r_lastDays b_count b_hammers b_borrowers b_firstDays b_lastDays s_day s_coins s_bookingCoins s_lateCoins s_faceCosts s_broken s_lent, [(ad (oL), .inl (t 3, 1, .inr (.inl out)))]] [0, 1] [2] 3 rfl (by decide) rfl (fun hmix => ?_)
  refine j_callVXC (a := 0) (b := 0) (st := [.int 0, .ref (ad oL)]) hX hTB (k_X9_requestAt (l := l) (D := D) (t := t) (ad := ad) (o := o) (oS := oS) (oN := oN) (oY := oY) (oG := oG) (oC := oC) (oP := oP) (oB := oB) hl d_hasSnapshot d_errorAt d_failedAt h_count h_pitches h_wears h_slots h_borrowers h_dueDays h_contents r_count r_nextId r_ids r_borrowers r_pitches r_tolerances r_firstDays r_lastDays b_count b_hammers b_borrowers b_firstDays b_lastDays s_day s_coins s_bookingCoins s_lateCoins s_faceCosts s_broken s_lent a1 u1 h2) q900 q901 q902 q1 q903 (n9 := 1) rfl ⟨by decide +kernel, by decide +kernel⟩ 0 rfl rfl rfl dL_requestAt_4 (Nat.le_of_ble_eq_true rfl) ⟨by decide, by decide⟩ (fun w : va_W => w ++ ([(ad (oL), .inl (t 3, 1, .inr (.inl out)))])) (jFr_r _) rfl rfl (fun E w hxw => ?_) (fun v w hvw => ?_)
  · obtain ⟨x4, rfl, hE4, rfl⟩ := hxw
    have hE4 := hE4.symm
    subst hE4
    have hf := jsum_l hf
    by_cases g4_0 : x4 = "java/util/NoSuchElementException"
    · have hf := jifp hf g4_0
      refine ⟨wD t ad o oS oN oY oG oC oP oB d_hasSnapshot d_errorAt d_failedAt ++ (wS t ad oS h_count h_pitches h_wears h_slots h_borrowers h_dueDays h_contents r_count r_nextId r_ids r_borrowers r_pitches r_tolerances r_firstDays r_lastDays b_count b_hammers b_borrowers b_firstDays b_lastDays s_day s_coins s_bookingCoins s_lateCoins s_faceCosts s_broken s_lent ++ ([(ad (oL), .inl (t 3, 1, .inr (.inl out)))])), 12, (jmix_perm (bs := [wD t ad o oS oN oY oG oC oP oB d_hasSnapshot d_errorAt d_failedAt, wS t ad oS h_count h_pitches h_wears h_slots h_borrowers h_dueDays h_contents r_count r_nextId r_ids r_borrowers r_pitches r_tolerances r_firstDays r_lastDays b_count b_hammers b_borrowers b_firstDays b_lastDays s_day s_coins s_bookingCoins s_lateCoins s_faceCosts s_broken s_lent, [(ad (oL), .inl (t 3, 1, .inr (.inl out)))]]) (is := [0, 1]) (js := [2]) 3 rfl (by decide)).symm, ?_, fun q => ?_⟩
      · rw [g4_0]
        exact ⟨[], { startPc := 0, endPc := 9, handlerPc := 12, catchType := 34 }, [], "java/util/NoSuchElementException", rfl, fun _ h => absurd h List.not_mem_nil, by decide, by decide, q691, q406, rfl⟩
      · change J X 1 6 (wD t ad o oS oN oY oG oC oP oB d_hasSnapshot d_errorAt d_failedAt ++ (wS t ad oS h_count h_pitches h_wears h_slots h_borrowers h_dueDays h_contents r_count r_nextId r_ids r_borrowers r_pitches r_tolerances r_firstDays r_lastDays b_count b_hammers b_borrowers b_firstDays b_lastDays s_day s_coins s_bookingCoins s_lateCoins s_faceCosts s_broken s_lent ++ ([(ad (oL), .inl (t 3, 1, .inr (.inl out)))]))) 12 [(0, .ref (ad o)), (1, .int a1), (2, .ref (ad oL))] [.ref q]
        refine j_astore_n hX [(3, .ref q), (0, .ref (ad o)), (1, .int a1), (2, .ref (ad oL))] dL_requestAt_12 rfl (by decide) rfl ?_
        refine j_iconst hX 1 dL_requestAt_13 (by decide) ?_
        cases hf
        exact j_iret hX hE dL_requestAt_14 (Nat.le_of_ble_eq_true rfl) (Nat.le_of_ble_eq_true rfl) ⟨rfl, rfl⟩
    have hf := jifn hf g4_0
    cases hf
  · obtain ⟨r3, rfl, rfl, rfl⟩ := hvw
    have hf := jsum_r hf
    change J X 1 6 ((wD t ad o oS oN oY oG oC oP oB d_hasSnapshot d_errorAt d_failedAt ++ (wS t ad oS h_count h_pitches h_wears h_slots h_borrowers h_dueDays h_contents r_count r_nextId r_ids r_borrowers r_pitches r_tolerances r_firstDays r_lastDays b_count b_hammers b_borrowers b_firstDays b_lastDays s_day s_coins s_bookingCoins s_lateCoins s_faceCosts s_broken s_lent)) ++ ([(ad (oL), .inl (t 3, 1, .inr (.inl out)))])) 7 [(0, .ref (ad o)), (1, .int a1), (2, .ref (ad oL))] [.int r3, .int 0, .ref (ad oL)]
    refine hmix [wD t ad o oS oN oY oG oC oP oB d_hasSnapshot d_errorAt d_failedAt, wS t ad oS h_count h_pitches h_wears h_slots h_borrowers h_dueDays h_contents r_count r_nextId r_ids r_borrowers r_pitches r_tolerances r_firstDays r_lastDays b_count b_hammers b_borrowers b_firstDays b_lastDays s_day s_coins s_bookingCoins s_lateCoins s_faceCosts s_broken s_lent, [(ad (oL), .inl (t 3, 1, .inr (.inl out)))]] _ _ _ _ _ rfl ?_
    change J X 1 6 (wD t ad o oS oN oY oG oC oP oB d_hasSnapshot d_errorAt d_failedAt ++ (wS t ad oS h_count h_pitches h_wears h_slots h_borrowers h_dueDays h_contents r_count r_nextId r_ids r_borrowers r_pitches r_tolerances r_firstDays r_lastDays b_count b_hammers b_borrowers b_firstDays b_lastDays s_day s_coins s_bookingCoins s_lateCoins s_faceCosts s_broken s_lent ++ ([(ad (oL), .inl (t 3, 1, .inr (.inl out)))]))) 7 [(0, .ref (ad o)), (1, .int a1), (2, .ref (ad oL))] [.int r3, .int 0, .ref (ad oL)]
    refine j_i2l hX dL_requestAt_7 ?_
    refine j_last hX (wD t ad o oS oN oY oG oC oP oB d_hasSnapshot d_errorAt d_failedAt ++ (wS t ad oS h_count h_pitches h_wears h_slots h_borrowers h_dueDays h_contents r_count r_nextId r_ids r_borrowers r_pitches r_tolerances r_firstDays r_lastDays b_count b_hammers b_borrowers b_firstDays b_lastDays s_day s_coins s_bookingCoins s_lateCoins s_faceCosts s_broken s_lent ++ ([(ad (oL), .inl (t 3, 1, .inr (.inl (vp_updL out (0 : Int32).toNatClampNeg ((r3).toInt64)))))]))) dL_requestAt_8 21 3 rfl rfl rfl hf (fun c8 hf => ?_)
    refine j_goto hX 15 dL_requestAt_9 (by decide) ?_
    refine j_iconst hX 0 dL_requestAt_15 (by decide) ?_
    cases hf
    exact j_iret hX hE dL_requestAt_16 (Nat.le_of_ble_eq_true rfl) (Nat.le_of_ble_eq_true rfl) ⟨rfl, rfl⟩
-- HammerDepotLaw fits (LHammerDepot;II[J)I
def f_L_fits (h_count : Int32) (h_pitches : Nat → Int32) (h_wears : Nat → Int32) (h_slots : Nat → Int32) (h_dueDays : Nat → Int32) (r_count : Int32) (r_ids : Nat → Int32) (r_pitches : Nat → Int32) (r_tolerances : Nat → Int32) (r_firstDays : Nat → Int32) (r_lastDays : Nat → Int32) (b_count : Int32) (b_hammers : Nat → Int32) (b_firstDays : Nat → Int32) (b_lastDays : Nat → Int32) (out : Nat → Int64) (a1 : Int32) (a2 : Int32) : Option (Int32 × (Nat → Int64)) :=
  Option.bind (f_X9_fits h_count h_pitches h_wears h_slots h_dueDays r_count r_ids r_pitches r_tolerances r_firstDays r_lastDays b_count b_hammers b_firstDays b_lastDays a1 a2) (fun u1 => Sum.elim (fun x4 => if x4 = "java/util/NoSuchElementException" then
    some (1, out)
  else
    if x4 = "java/lang/IndexOutOfBoundsException" then
      some (2, out)
    else
      none) (fun r3 =>
    if r3 = 0 then
      if jin 0 1 = true then
        some (0, vp_updL out (0 : Int32).toNatClampNeg (0 : Int64))
      else none
    else
      if jin 0 1 = true then
        some (0, vp_updL out (0 : Int32).toNatClampNeg (1 : Int64))
      else none) u1)
set_option maxHeartbeats 4000000 in
set_option maxRecDepth 100000 in
theorem k_L_fits {l : Launch} {D : va_G} {t : Nat → ClassId} {ad : Nat → Nat} {o oS oN oY oG oC oP oB oL : Nat} (hl : l.stackTraces = false) (d_hasSnapshot : Int32) (d_errorAt : Int32) (d_failedAt : Int32) (h_count : Int32) (h_pitches : Nat → Int32) (h_wears : Nat → Int32) (h_slots : Nat → Int32) (h_borrowers : Nat → Int32) (h_dueDays : Nat → Int32) (h_contents : Nat → Int32) (r_count : Int32) (r_nextId : Int32) (r_ids : Nat → Int32) (r_borrowers : Nat → Int32) (r_pitches : Nat → Int32) (r_tolerances : Nat → Int32) (r_firstDays : Nat → Int32) (r_lastDays : Nat → Int32) (b_count : Int32) (b_hammers : Nat → Int32) (b_borrowers : Nat → Int32) (b_firstDays : Nat → Int32) (b_lastDays : Nat → Int32) (s_day : Int32) (s_coins : Int32) (s_bookingCoins : Int32) (s_lateCoins : Int32) (s_faceCosts : Int32) (s_broken : Int32) (s_lent : Int32) (out : Nat → Int64) (a1 : Int32) (a2 : Int32) (u : Int32 × (Nat → Int64)) (hf : f_L_fits h_count h_pitches h_wears h_slots h_dueDays r_count r_ids r_pitches r_tolerances r_firstDays r_lastDays b_count b_hammers b_firstDays b_lastDays out a1 a2 = some u) : cmh l D (jT t) yL_fits cL_fits 5 (some FieldType.int) [(0, 17, 20, 34), (0, 17, 24, 15)] { frames := 8, cells := 2, slots := 12, locals := 135 } [.ref (ad o), .int a1, .int a2, .ref (ad oL)] (wD t ad o oS oN oY oG oC oP oB d_hasSnapshot d_errorAt d_failedAt ++ (wS t ad oS h_count h_pitches h_wears h_slots h_borrowers h_dueDays h_contents r_count r_nextId r_ids r_borrowers r_pitches r_tolerances r_firstDays r_lastDays b_count b_hammers b_borrowers b_firstDays b_lastDays s_day s_coins s_bookingCoins s_lateCoins s_faceCosts s_broken s_lent ++ ([(ad (oL), .inl (t 3, 1, .inr (.inl out)))]))) (fun v w => v = (some (.int u.1)) ∧ w = wD t ad o oS oN oY oG oC oP oB d_hasSnapshot d_errorAt d_failedAt ++ (wS t ad oS h_count h_pitches h_wears h_slots h_borrowers h_dueDays h_contents r_count r_nextId r_ids r_borrowers r_pitches r_tolerances r_firstDays r_lastDays b_count b_hammers b_borrowers b_firstDays b_lastDays s_day s_coins s_bookingCoins s_lateCoins s_faceCosts s_broken s_lent ++ ([(ad (oL), .inl (t 3, 1, .inr (.inl u.2)))]))) := by
  refine cmh_of RL rfl (by decide +kernel) (Nat.le_of_ble_eq_true rfl) (fun X hX hE hTB => ?_)
  change J X 0 0 (wD t ad o oS oN oY oG oC oP oB d_hasSnapshot d_errorAt d_failedAt ++ (wS t ad oS h_count h_pitches h_wears h_slots h_borrowers h_dueDays h_contents r_count r_nextId r_ids r_borrowers r_pitches r_tolerances r_firstDays r_lastDays b_count b_hammers b_borrowers b_firstDays b_lastDays s_day s_coins s_bookingCoins s_lateCoins s_faceCosts s_broken s_lent ++ ([(ad (oL), .inl (t 3, 1, .inr (.inl out)))]))) 0 [(0, .ref (ad o)), (1, .int a1), (2, .int a2), (3, .ref (ad oL))] []
  unfold f_L_fits at hf
  refine j_aload_n hX dL_fits_0 rfl 3 rfl ?_
  refine j_iconst hX 0 dL_fits_1 (by decide) ?_
  refine j_aload_n hX dL_fits_2 rfl 0 rfl ?_
  refine j_iload_n hX dL_fits_3 rfl 1 rfl ?_
  refine j_iload_n hX dL_fits_4 rfl 2 rfl ?_
  obtain ⟨u1, h2, hf⟩ := jbind hf
  refine j_mix hX [wD t ad o oS oN oY oG oC oP oB d_hasSnapshot d_errorAt d_failedAt, wS t ad oS h_count h_pitches h_wears h_slots h_borrowers h_dueDays h_contents r_count r_nextId r_ids r_borrowers r_pitches r_tolerances r_firstDays r_lastDays b_count b_hammers b_borrowers b_firstDays b_lastDays s_day s_coins s_bookingCoins s_lateCoins s_faceCosts s_broken s_lent, [(ad (oL), .inl (t 3, 1, .inr (.inl out)))]] [0, 1] [2] 3 rfl (by decide) rfl (fun hmix => ?_)
  refine j_callVXC (a := 0) (b := 0) (st := [.int 0, .ref (ad oL)]) hX hTB (k_X9_fits (l := l) (D := D) (t := t) (ad := ad) (o := o) (oS := oS) (oN := oN) (oY := oY) (oG := oG) (oC := oC) (oP := oP) (oB := oB) hl d_hasSnapshot d_errorAt d_failedAt h_count h_pitches h_wears h_slots h_borrowers h_dueDays h_contents r_count r_nextId r_ids r_borrowers r_pitches r_tolerances r_firstDays r_lastDays b_count b_hammers b_borrowers b_firstDays b_lastDays s_day s_coins s_bookingCoins s_lateCoins s_faceCosts s_broken s_lent a1 a2 u1 h2) q909 q910 q911 q1 q912 (n9 := 2) rfl ⟨by decide +kernel, by decide +kernel⟩ 0 rfl rfl rfl dL_fits_5 (Nat.le_of_ble_eq_true rfl) ⟨by decide, by decide⟩ (fun w : va_W => w ++ ([(ad (oL), .inl (t 3, 1, .inr (.inl out)))])) (jFr_r _) rfl rfl (fun E w hxw => ?_) (fun v w hvw => ?_)
  · obtain ⟨x4, rfl, hE4, rfl⟩ := hxw
    have hE4 := hE4.symm
    subst hE4
    have hf := jsum_l hf
    by_cases g5_0 : x4 = "java/util/NoSuchElementException"
    · have hf := jifp hf g5_0
      refine ⟨wD t ad o oS oN oY oG oC oP oB d_hasSnapshot d_errorAt d_failedAt ++ (wS t ad oS h_count h_pitches h_wears h_slots h_borrowers h_dueDays h_contents r_count r_nextId r_ids r_borrowers r_pitches r_tolerances r_firstDays r_lastDays b_count b_hammers b_borrowers b_firstDays b_lastDays s_day s_coins s_bookingCoins s_lateCoins s_faceCosts s_broken s_lent ++ ([(ad (oL), .inl (t 3, 1, .inr (.inl out)))])), 20, (jmix_perm (bs := [wD t ad o oS oN oY oG oC oP oB d_hasSnapshot d_errorAt d_failedAt, wS t ad oS h_count h_pitches h_wears h_slots h_borrowers h_dueDays h_contents r_count r_nextId r_ids r_borrowers r_pitches r_tolerances r_firstDays r_lastDays b_count b_hammers b_borrowers b_firstDays b_lastDays s_day s_coins s_bookingCoins s_lateCoins s_faceCosts s_broken s_lent, [(ad (oL), .inl (t 3, 1, .inr (.inl out)))]]) (is := [0, 1]) (js := [2]) 3 rfl (by decide)).symm, ?_, fun q => ?_⟩
      · rw [g5_0]
        exact ⟨[], { startPc := 0, endPc := 17, handlerPc := 20, catchType := 34 }, [{ startPc := 0, endPc := 17, handlerPc := 24, catchType := 15 }], "java/util/NoSuchElementException", rfl, fun _ h => absurd h List.not_mem_nil, by decide, by decide, q691, q406, rfl⟩
      · change J X 2 12 (wD t ad o oS oN oY oG oC oP oB d_hasSnapshot d_errorAt d_failedAt ++ (wS t ad oS h_count h_pitches h_wears h_slots h_borrowers h_dueDays h_contents r_count r_nextId r_ids r_borrowers r_pitches r_tolerances r_firstDays r_lastDays b_count b_hammers b_borrowers b_firstDays b_lastDays s_day s_coins s_bookingCoins s_lateCoins s_faceCosts s_broken s_lent ++ ([(ad (oL), .inl (t 3, 1, .inr (.inl out)))]))) 20 [(0, .ref (ad o)), (1, .int a1), (2, .int a2), (3, .ref (ad oL))] [.ref q]
        refine j_astore hX [(4, .ref q), (0, .ref (ad o)), (1, .int a1), (2, .int a2), (3, .ref (ad oL))] dL_fits_20 (by decide) rfl ?_
        refine j_iconst hX 1 dL_fits_22 (by decide) ?_
        cases hf
        exact j_iret hX hE dL_fits_23 (Nat.le_of_ble_eq_true rfl) (Nat.le_of_ble_eq_true rfl) ⟨rfl, rfl⟩
    have hf := jifn hf g5_0
    by_cases g5_1 : x4 = "java/lang/IndexOutOfBoundsException"
    · have hf := jifp hf g5_1
      refine ⟨wD t ad o oS oN oY oG oC oP oB d_hasSnapshot d_errorAt d_failedAt ++ (wS t ad oS h_count h_pitches h_wears h_slots h_borrowers h_dueDays h_contents r_count r_nextId r_ids r_borrowers r_pitches r_tolerances r_firstDays r_lastDays b_count b_hammers b_borrowers b_firstDays b_lastDays s_day s_coins s_bookingCoins s_lateCoins s_faceCosts s_broken s_lent ++ ([(ad (oL), .inl (t 3, 1, .inr (.inl out)))])), 24, (jmix_perm (bs := [wD t ad o oS oN oY oG oC oP oB d_hasSnapshot d_errorAt d_failedAt, wS t ad oS h_count h_pitches h_wears h_slots h_borrowers h_dueDays h_contents r_count r_nextId r_ids r_borrowers r_pitches r_tolerances r_firstDays r_lastDays b_count b_hammers b_borrowers b_firstDays b_lastDays s_day s_coins s_bookingCoins s_lateCoins s_faceCosts s_broken s_lent, [(ad (oL), .inl (t 3, 1, .inr (.inl out)))]]) (is := [0, 1]) (js := [2]) 3 rfl (by decide)).symm, ?_, fun q => ?_⟩
      · rw [g5_1]
        exact ⟨[{ startPc := 0, endPc := 17, handlerPc := 20, catchType := 34 }], { startPc := 0, endPc := 17, handlerPc := 24, catchType := 15 }, [], "java/lang/IndexOutOfBoundsException", rfl, List.forall_mem_cons.mpr ⟨⟨by decide, "java/util/NoSuchElementException", q691, List.mem_of_getElem? (i := 19) rfl⟩, fun _ h => absurd h List.not_mem_nil⟩, by decide, by decide, q599, q390, rfl⟩
      · change J X 2 12 (wD t ad o oS oN oY oG oC oP oB d_hasSnapshot d_errorAt d_failedAt ++ (wS t ad oS h_count h_pitches h_wears h_slots h_borrowers h_dueDays h_contents r_count r_nextId r_ids r_borrowers r_pitches r_tolerances r_firstDays r_lastDays b_count b_hammers b_borrowers b_firstDays b_lastDays s_day s_coins s_bookingCoins s_lateCoins s_faceCosts s_broken s_lent ++ ([(ad (oL), .inl (t 3, 1, .inr (.inl out)))]))) 24 [(0, .ref (ad o)), (1, .int a1), (2, .int a2), (3, .ref (ad oL))] [.ref q]
        refine j_astore hX [(4, .ref q), (0, .ref (ad o)), (1, .int a1), (2, .int a2), (3, .ref (ad oL))] dL_fits_24 (by decide) rfl ?_
        refine j_iconst hX 2 dL_fits_26 (by decide) ?_
        cases hf
        exact j_iret hX hE dL_fits_27 (Nat.le_of_ble_eq_true rfl) (Nat.le_of_ble_eq_true rfl) ⟨rfl, rfl⟩
    have hf := jifn hf g5_1
    cases hf
  · obtain ⟨r3, rfl, rfl, rfl⟩ := hvw
    have hf := jsum_r hf
    change J X 2 12 ((wD t ad o oS oN oY oG oC oP oB d_hasSnapshot d_errorAt d_failedAt ++ (wS t ad oS h_count h_pitches h_wears h_slots h_borrowers h_dueDays h_contents r_count r_nextId r_ids r_borrowers r_pitches r_tolerances r_firstDays r_lastDays b_count b_hammers b_borrowers b_firstDays b_lastDays s_day s_coins s_bookingCoins s_lateCoins s_faceCosts s_broken s_lent)) ++ ([(ad (oL), .inl (t 3, 1, .inr (.inl out)))])) 8 [(0, .ref (ad o)), (1, .int a1), (2, .int a2), (3, .ref (ad oL))] [.int r3, .int 0, .ref (ad oL)]
    refine hmix [wD t ad o oS oN oY oG oC oP oB d_hasSnapshot d_errorAt d_failedAt, wS t ad oS h_count h_pitches h_wears h_slots h_borrowers h_dueDays h_contents r_count r_nextId r_ids r_borrowers r_pitches r_tolerances r_firstDays r_lastDays b_count b_hammers b_borrowers b_firstDays b_lastDays s_day s_coins s_bookingCoins s_lateCoins s_faceCosts s_broken s_lent, [(ad (oL), .inl (t 3, 1, .inr (.inl out)))]] _ _ _ _ _ rfl ?_
    change J X 2 12 (wD t ad o oS oN oY oG oC oP oB d_hasSnapshot d_errorAt d_failedAt ++ (wS t ad oS h_count h_pitches h_wears h_slots h_borrowers h_dueDays h_contents r_count r_nextId r_ids r_borrowers r_pitches r_tolerances r_firstDays r_lastDays b_count b_hammers b_borrowers b_firstDays b_lastDays s_day s_coins s_bookingCoins s_lateCoins s_faceCosts s_broken s_lent ++ ([(ad (oL), .inl (t 3, 1, .inr (.inl out)))]))) 8 [(0, .ref (ad o)), (1, .int a1), (2, .int a2), (3, .ref (ad oL))] [.int r3, .int 0, .ref (ad oL)]
    refine j_if_eq hX 15 dL_fits_8 (by decide) hf (fun c8 hf => ?_) (fun c8 hf => ?_)
    · refine j_lconst hX 0 dL_fits_15 (by decide) ?_
      refine j_last hX (wD t ad o oS oN oY oG oC oP oB d_hasSnapshot d_errorAt d_failedAt ++ (wS t ad oS h_count h_pitches h_wears h_slots h_borrowers h_dueDays h_contents r_count r_nextId r_ids r_borrowers r_pitches r_tolerances r_firstDays r_lastDays b_count b_hammers b_borrowers b_firstDays b_lastDays s_day s_coins s_bookingCoins s_lateCoins s_faceCosts s_broken s_lent ++ ([(ad (oL), .inl (t 3, 1, .inr (.inl (vp_updL out (0 : Int32).toNatClampNeg (0 : Int64)))))]))) dL_fits_16 21 3 rfl rfl rfl hf (fun c16 hf => ?_)
      refine j_goto hX 28 dL_fits_17 (by decide) ?_
      refine j_iconst hX 0 dL_fits_28 (by decide) ?_
      cases hf
      exact j_iret hX hE dL_fits_29 (Nat.le_of_ble_eq_true rfl) (Nat.le_of_ble_eq_true rfl) ⟨rfl, rfl⟩
    · refine j_lconst hX 1 dL_fits_11 (by decide) ?_
      refine j_goto hX 16 dL_fits_12 (by decide) ?_
      refine j_last hX (wD t ad o oS oN oY oG oC oP oB d_hasSnapshot d_errorAt d_failedAt ++ (wS t ad oS h_count h_pitches h_wears h_slots h_borrowers h_dueDays h_contents r_count r_nextId r_ids r_borrowers r_pitches r_tolerances r_firstDays r_lastDays b_count b_hammers b_borrowers b_firstDays b_lastDays s_day s_coins s_bookingCoins s_lateCoins s_faceCosts s_broken s_lent ++ ([(ad (oL), .inl (t 3, 1, .inr (.inl (vp_updL out (0 : Int32).toNatClampNeg (1 : Int64)))))]))) dL_fits_16 21 3 rfl rfl rfl hf (fun c16 hf => ?_)
      refine j_goto hX 28 dL_fits_17 (by decide) ?_
      refine j_iconst hX 0 dL_fits_28 (by decide) ?_
      cases hf
      exact j_iret hX hE dL_fits_29 (Nat.le_of_ble_eq_true rfl) (Nat.le_of_ble_eq_true rfl) ⟨rfl, rfl⟩
-- HammerDepotLaw bestHammer (LHammerDepot;I[J)I
def f_L_bestHammer (h_count : Int32) (h_pitches : Nat → Int32) (h_wears : Nat → Int32) (h_slots : Nat → Int32) (h_dueDays : Nat → Int32) (r_count : Int32) (r_ids : Nat → Int32) (r_pitches : Nat → Int32) (r_tolerances : Nat → Int32) (r_firstDays : Nat → Int32) (r_lastDays : Nat → Int32) (b_count : Int32) (b_hammers : Nat → Int32) (b_firstDays : Nat → Int32) (b_lastDays : Nat → Int32) (out : Nat → Int64) (a1 : Int32) : Option (Int32 × (Nat → Int64)) :=
  Option.bind (f_X9_bestHammer h_count h_pitches h_wears h_slots h_dueDays r_count r_ids r_pitches r_tolerances r_firstDays r_lastDays b_count b_hammers b_firstDays b_lastDays a1) (fun u1 => Sum.elim (fun x4 => if x4 = "java/util/NoSuchElementException" then
    some (1, out)
  else
    none) (fun r3 =>
    if jin 0 1 = true then
      some (0, vp_updL out (0 : Int32).toNatClampNeg ((r3).toInt64))
    else none) u1)
set_option maxHeartbeats 4000000 in
set_option maxRecDepth 100000 in
theorem k_L_bestHammer {l : Launch} {D : va_G} {t : Nat → ClassId} {ad : Nat → Nat} {o oS oN oY oG oC oP oB oL : Nat} (hl : l.stackTraces = false) (d_hasSnapshot : Int32) (d_errorAt : Int32) (d_failedAt : Int32) (h_count : Int32) (h_pitches : Nat → Int32) (h_wears : Nat → Int32) (h_slots : Nat → Int32) (h_borrowers : Nat → Int32) (h_dueDays : Nat → Int32) (h_contents : Nat → Int32) (r_count : Int32) (r_nextId : Int32) (r_ids : Nat → Int32) (r_borrowers : Nat → Int32) (r_pitches : Nat → Int32) (r_tolerances : Nat → Int32) (r_firstDays : Nat → Int32) (r_lastDays : Nat → Int32) (b_count : Int32) (b_hammers : Nat → Int32) (b_borrowers : Nat → Int32) (b_firstDays : Nat → Int32) (b_lastDays : Nat → Int32) (s_day : Int32) (s_coins : Int32) (s_bookingCoins : Int32) (s_lateCoins : Int32) (s_faceCosts : Int32) (s_broken : Int32) (s_lent : Int32) (out : Nat → Int64) (a1 : Int32) (u : Int32 × (Nat → Int64)) (hf : f_L_bestHammer h_count h_pitches h_wears h_slots h_dueDays r_count r_ids r_pitches r_tolerances r_firstDays r_lastDays b_count b_hammers b_firstDays b_lastDays out a1 = some u) : cmh l D (jT t) yL_bestHammer cL_bestHammer 4 (some FieldType.int) [(0, 9, 12, 34)] { frames := 8, cells := 2, slots := 12, locals := 134 } [.ref (ad o), .int a1, .ref (ad oL)] (wD t ad o oS oN oY oG oC oP oB d_hasSnapshot d_errorAt d_failedAt ++ (wS t ad oS h_count h_pitches h_wears h_slots h_borrowers h_dueDays h_contents r_count r_nextId r_ids r_borrowers r_pitches r_tolerances r_firstDays r_lastDays b_count b_hammers b_borrowers b_firstDays b_lastDays s_day s_coins s_bookingCoins s_lateCoins s_faceCosts s_broken s_lent ++ ([(ad (oL), .inl (t 3, 1, .inr (.inl out)))]))) (fun v w => v = (some (.int u.1)) ∧ w = wD t ad o oS oN oY oG oC oP oB d_hasSnapshot d_errorAt d_failedAt ++ (wS t ad oS h_count h_pitches h_wears h_slots h_borrowers h_dueDays h_contents r_count r_nextId r_ids r_borrowers r_pitches r_tolerances r_firstDays r_lastDays b_count b_hammers b_borrowers b_firstDays b_lastDays s_day s_coins s_bookingCoins s_lateCoins s_faceCosts s_broken s_lent ++ ([(ad (oL), .inl (t 3, 1, .inr (.inl u.2)))]))) := by
  refine cmh_of RL rfl (by decide +kernel) (Nat.le_of_ble_eq_true rfl) (fun X hX hE hTB => ?_)
  change J X 0 0 (wD t ad o oS oN oY oG oC oP oB d_hasSnapshot d_errorAt d_failedAt ++ (wS t ad oS h_count h_pitches h_wears h_slots h_borrowers h_dueDays h_contents r_count r_nextId r_ids r_borrowers r_pitches r_tolerances r_firstDays r_lastDays b_count b_hammers b_borrowers b_firstDays b_lastDays s_day s_coins s_bookingCoins s_lateCoins s_faceCosts s_broken s_lent ++ ([(ad (oL), .inl (t 3, 1, .inr (.inl out)))]))) 0 [(0, .ref (ad o)), (1, .int a1), (2, .ref (ad oL))] []
  unfold f_L_bestHammer at hf
  refine j_aload_n hX dL_bestHammer_0 rfl 2 rfl ?_
  refine j_iconst hX 0 dL_bestHammer_1 (by decide) ?_
  refine j_aload_n hX dL_bestHammer_2 rfl 0 rfl ?_
  refine j_iload_n hX dL_bestHammer_3 rfl 1 rfl ?_
  obtain ⟨u1, h2, hf⟩ := jbind hf
  refine j_mix hX [wD t ad o oS oN oY oG oC oP oB d_hasSnapshot d_errorAt d_failedAt, wS t ad oS h_count h_pitches h_wears h_slots h_borrowers h_dueDays h_contents r_count r_nextId r_ids r_borrowers r_pitches r_tolerances r_firstDays r_lastDays b_count b_hammers b_borrowers b_firstDays b_lastDays s_day s_coins s_bookingCoins s_lateCoins s_faceCosts s_broken s_lent, [(ad (oL), .inl (t 3, 1, .inr (.inl out)))]] [0, 1] [2] 3 rfl (by decide) rfl (fun hmix => ?_)
  refine j_callVXC (a := 0) (b := 0) (st := [.int 0, .ref (ad oL)]) hX hTB (k_X9_bestHammer (l := l) (D := D) (t := t) (ad := ad) (o := o) (oS := oS) (oN := oN) (oY := oY) (oG := oG) (oC := oC) (oP := oP) (oB := oB) hl d_hasSnapshot d_errorAt d_failedAt h_count h_pitches h_wears h_slots h_borrowers h_dueDays h_contents r_count r_nextId r_ids r_borrowers r_pitches r_tolerances r_firstDays r_lastDays b_count b_hammers b_borrowers b_firstDays b_lastDays s_day s_coins s_bookingCoins s_lateCoins s_faceCosts s_broken s_lent a1 u1 h2) q921 q922 q923 q1 q924 (n9 := 1) rfl ⟨by decide +kernel, by decide +kernel⟩ 0 rfl rfl rfl dL_bestHammer_4 (Nat.le_of_ble_eq_true rfl) ⟨by decide, by decide⟩ (fun w : va_W => w ++ ([(ad (oL), .inl (t 3, 1, .inr (.inl out)))])) (jFr_r _) rfl rfl (fun E w hxw => ?_) (fun v w hvw => ?_)
  · obtain ⟨x4, rfl, hE4, rfl⟩ := hxw
    have hE4 := hE4.symm
    subst hE4
    have hf := jsum_l hf
    by_cases g4_0 : x4 = "java/util/NoSuchElementException"
    · have hf := jifp hf g4_0
      refine ⟨wD t ad o oS oN oY oG oC oP oB d_hasSnapshot d_errorAt d_failedAt ++ (wS t ad oS h_count h_pitches h_wears h_slots h_borrowers h_dueDays h_contents r_count r_nextId r_ids r_borrowers r_pitches r_tolerances r_firstDays r_lastDays b_count b_hammers b_borrowers b_firstDays b_lastDays s_day s_coins s_bookingCoins s_lateCoins s_faceCosts s_broken s_lent ++ ([(ad (oL), .inl (t 3, 1, .inr (.inl out)))])), 12, (jmix_perm (bs := [wD t ad o oS oN oY oG oC oP oB d_hasSnapshot d_errorAt d_failedAt, wS t ad oS h_count h_pitches h_wears h_slots h_borrowers h_dueDays h_contents r_count r_nextId r_ids r_borrowers r_pitches r_tolerances r_firstDays r_lastDays b_count b_hammers b_borrowers b_firstDays b_lastDays s_day s_coins s_bookingCoins s_lateCoins s_faceCosts s_broken s_lent, [(ad (oL), .inl (t 3, 1, .inr (.inl out)))]]) (is := [0, 1]) (js := [2]) 3 rfl (by decide)).symm, ?_, fun q => ?_⟩
      · rw [g4_0]
        exact ⟨[], { startPc := 0, endPc := 9, handlerPc := 12, catchType := 34 }, [], "java/util/NoSuchElementException", rfl, fun _ h => absurd h List.not_mem_nil, by decide, by decide, q691, q406, rfl⟩
      · change J X 2 12 (wD t ad o oS oN oY oG oC oP oB d_hasSnapshot d_errorAt d_failedAt ++ (wS t ad oS h_count h_pitches h_wears h_slots h_borrowers h_dueDays h_contents r_count r_nextId r_ids r_borrowers r_pitches r_tolerances r_firstDays r_lastDays b_count b_hammers b_borrowers b_firstDays b_lastDays s_day s_coins s_bookingCoins s_lateCoins s_faceCosts s_broken s_lent ++ ([(ad (oL), .inl (t 3, 1, .inr (.inl out)))]))) 12 [(0, .ref (ad o)), (1, .int a1), (2, .ref (ad oL))] [.ref q]
        refine j_astore_n hX [(3, .ref q), (0, .ref (ad o)), (1, .int a1), (2, .ref (ad oL))] dL_bestHammer_12 rfl (by decide) rfl ?_
        refine j_iconst hX 1 dL_bestHammer_13 (by decide) ?_
        cases hf
        exact j_iret hX hE dL_bestHammer_14 (Nat.le_of_ble_eq_true rfl) (Nat.le_of_ble_eq_true rfl) ⟨rfl, rfl⟩
    have hf := jifn hf g4_0
    cases hf
  · obtain ⟨r3, rfl, rfl, rfl⟩ := hvw
    have hf := jsum_r hf
    change J X 2 12 ((wD t ad o oS oN oY oG oC oP oB d_hasSnapshot d_errorAt d_failedAt ++ (wS t ad oS h_count h_pitches h_wears h_slots h_borrowers h_dueDays h_contents r_count r_nextId r_ids r_borrowers r_pitches r_tolerances r_firstDays r_lastDays b_count b_hammers b_borrowers b_firstDays b_lastDays s_day s_coins s_bookingCoins s_lateCoins s_faceCosts s_broken s_lent)) ++ ([(ad (oL), .inl (t 3, 1, .inr (.inl out)))])) 7 [(0, .ref (ad o)), (1, .int a1), (2, .ref (ad oL))] [.int r3, .int 0, .ref (ad oL)]
    refine hmix [wD t ad o oS oN oY oG oC oP oB d_hasSnapshot d_errorAt d_failedAt, wS t ad oS h_count h_pitches h_wears h_slots h_borrowers h_dueDays h_contents r_count r_nextId r_ids r_borrowers r_pitches r_tolerances r_firstDays r_lastDays b_count b_hammers b_borrowers b_firstDays b_lastDays s_day s_coins s_bookingCoins s_lateCoins s_faceCosts s_broken s_lent, [(ad (oL), .inl (t 3, 1, .inr (.inl out)))]] _ _ _ _ _ rfl ?_
    change J X 2 12 (wD t ad o oS oN oY oG oC oP oB d_hasSnapshot d_errorAt d_failedAt ++ (wS t ad oS h_count h_pitches h_wears h_slots h_borrowers h_dueDays h_contents r_count r_nextId r_ids r_borrowers r_pitches r_tolerances r_firstDays r_lastDays b_count b_hammers b_borrowers b_firstDays b_lastDays s_day s_coins s_bookingCoins s_lateCoins s_faceCosts s_broken s_lent ++ ([(ad (oL), .inl (t 3, 1, .inr (.inl out)))]))) 7 [(0, .ref (ad o)), (1, .int a1), (2, .ref (ad oL))] [.int r3, .int 0, .ref (ad oL)]
    refine j_i2l hX dL_bestHammer_7 ?_
    refine j_last hX (wD t ad o oS oN oY oG oC oP oB d_hasSnapshot d_errorAt d_failedAt ++ (wS t ad oS h_count h_pitches h_wears h_slots h_borrowers h_dueDays h_contents r_count r_nextId r_ids r_borrowers r_pitches r_tolerances r_firstDays r_lastDays b_count b_hammers b_borrowers b_firstDays b_lastDays s_day s_coins s_bookingCoins s_lateCoins s_faceCosts s_broken s_lent ++ ([(ad (oL), .inl (t 3, 1, .inr (.inl (vp_updL out (0 : Int32).toNatClampNeg ((r3).toInt64)))))]))) dL_bestHammer_8 21 3 rfl rfl rfl hf (fun c8 hf => ?_)
    refine j_goto hX 15 dL_bestHammer_9 (by decide) ?_
    refine j_iconst hX 0 dL_bestHammer_15 (by decide) ?_
    cases hf
    exact j_iret hX hE dL_bestHammer_16 (Nat.le_of_ble_eq_true rfl) (Nat.le_of_ble_eq_true rfl) ⟨rfl, rfl⟩
-- HammerDepotLaw loudness (LHammerDepot;II[J)I
def f_L_loudness (h_count : Int32) (h_pitches : Nat → Int32) (h_contents : Nat → Int32) (out : Nat → Int64) (a1 : Int32) (a2 : Int32) : Option (Int32 × (Nat → Int64)) :=
  Option.bind (f_X9_loudness h_count h_pitches h_contents a1 a2) (fun u1 => Sum.elim (fun x4 => if x4 = "java/lang/IndexOutOfBoundsException" then
    some (1, out)
  else
    none) (fun r3 =>
    if jin 0 1 = true then
      some (0, vp_updL out (0 : Int32).toNatClampNeg ((r3).toInt64))
    else none) u1)
set_option maxHeartbeats 4000000 in
set_option maxRecDepth 100000 in
theorem k_L_loudness {l : Launch} {D : va_G} {t : Nat → ClassId} {ad : Nat → Nat} {o oS oN oY oG oC oP oB oL : Nat} (hl : l.stackTraces = false) (d_hasSnapshot : Int32) (d_errorAt : Int32) (d_failedAt : Int32) (h_count : Int32) (h_pitches : Nat → Int32) (h_wears : Nat → Int32) (h_slots : Nat → Int32) (h_borrowers : Nat → Int32) (h_dueDays : Nat → Int32) (h_contents : Nat → Int32) (r_count : Int32) (r_nextId : Int32) (r_ids : Nat → Int32) (r_borrowers : Nat → Int32) (r_pitches : Nat → Int32) (r_tolerances : Nat → Int32) (r_firstDays : Nat → Int32) (r_lastDays : Nat → Int32) (b_count : Int32) (b_hammers : Nat → Int32) (b_borrowers : Nat → Int32) (b_firstDays : Nat → Int32) (b_lastDays : Nat → Int32) (s_day : Int32) (s_coins : Int32) (s_bookingCoins : Int32) (s_lateCoins : Int32) (s_faceCosts : Int32) (s_broken : Int32) (s_lent : Int32) (out : Nat → Int64) (a1 : Int32) (a2 : Int32) (u : Int32 × (Nat → Int64)) (hf : f_L_loudness h_count h_pitches h_contents out a1 a2 = some u) : cmh l D (jT t) yL_loudness cL_loudness 5 (some FieldType.int) [(0, 10, 13, 15)] { frames := 8, cells := 1, slots := 6, locals := 133 } [.ref (ad o), .int a1, .int a2, .ref (ad oL)] (wD t ad o oS oN oY oG oC oP oB d_hasSnapshot d_errorAt d_failedAt ++ (wS t ad oS h_count h_pitches h_wears h_slots h_borrowers h_dueDays h_contents r_count r_nextId r_ids r_borrowers r_pitches r_tolerances r_firstDays r_lastDays b_count b_hammers b_borrowers b_firstDays b_lastDays s_day s_coins s_bookingCoins s_lateCoins s_faceCosts s_broken s_lent ++ ([(ad (oL), .inl (t 3, 1, .inr (.inl out)))]))) (fun v w => v = (some (.int u.1)) ∧ w = wD t ad o oS oN oY oG oC oP oB d_hasSnapshot d_errorAt d_failedAt ++ (wS t ad oS h_count h_pitches h_wears h_slots h_borrowers h_dueDays h_contents r_count r_nextId r_ids r_borrowers r_pitches r_tolerances r_firstDays r_lastDays b_count b_hammers b_borrowers b_firstDays b_lastDays s_day s_coins s_bookingCoins s_lateCoins s_faceCosts s_broken s_lent ++ ([(ad (oL), .inl (t 3, 1, .inr (.inl u.2)))]))) := by
  refine cmh_of RL rfl (by decide +kernel) (Nat.le_of_ble_eq_true rfl) (fun X hX hE hTB => ?_)
  change J X 0 0 (wD t ad o oS oN oY oG oC oP oB d_hasSnapshot d_errorAt d_failedAt ++ (wS t ad oS h_count h_pitches h_wears h_slots h_borrowers h_dueDays h_contents r_count r_nextId r_ids r_borrowers r_pitches r_tolerances r_firstDays r_lastDays b_count b_hammers b_borrowers b_firstDays b_lastDays s_day s_coins s_bookingCoins s_lateCoins s_faceCosts s_broken s_lent ++ ([(ad (oL), .inl (t 3, 1, .inr (.inl out)))]))) 0 [(0, .ref (ad o)), (1, .int a1), (2, .int a2), (3, .ref (ad oL))] []
  unfold f_L_loudness at hf
  refine j_aload_n hX dL_loudness_0 rfl 3 rfl ?_
  refine j_iconst hX 0 dL_loudness_1 (by decide) ?_
  refine j_aload_n hX dL_loudness_2 rfl 0 rfl ?_
  refine j_iload_n hX dL_loudness_3 rfl 1 rfl ?_
  refine j_iload_n hX dL_loudness_4 rfl 2 rfl ?_
  obtain ⟨u1, h2, hf⟩ := jbind hf
  refine j_mix hX [wD t ad o oS oN oY oG oC oP oB d_hasSnapshot d_errorAt d_failedAt, wS t ad oS h_count h_pitches h_wears h_slots h_borrowers h_dueDays h_contents r_count r_nextId r_ids r_borrowers r_pitches r_tolerances r_firstDays r_lastDays b_count b_hammers b_borrowers b_firstDays b_lastDays s_day s_coins s_bookingCoins s_lateCoins s_faceCosts s_broken s_lent, [(ad (oL), .inl (t 3, 1, .inr (.inl out)))]] [0, 1] [2] 3 rfl (by decide) rfl (fun hmix => ?_)
  refine j_callVXC (a := 0) (b := 0) (st := [.int 0, .ref (ad oL)]) hX hTB (k_X9_loudness (l := l) (D := D) (t := t) (ad := ad) (o := o) (oS := oS) (oN := oN) (oY := oY) (oG := oG) (oC := oC) (oP := oP) (oB := oB) hl d_hasSnapshot d_errorAt d_failedAt h_count h_pitches h_wears h_slots h_borrowers h_dueDays h_contents r_count r_nextId r_ids r_borrowers r_pitches r_tolerances r_firstDays r_lastDays b_count b_hammers b_borrowers b_firstDays b_lastDays s_day s_coins s_bookingCoins s_lateCoins s_faceCosts s_broken s_lent a1 a2 u1 h2) q929 q930 q931 q1 q932 (n9 := 2) rfl ⟨by decide +kernel, by decide +kernel⟩ 0 rfl rfl rfl dL_loudness_5 (Nat.le_of_ble_eq_true rfl) ⟨by decide, by decide⟩ (fun w : va_W => w ++ ([(ad (oL), .inl (t 3, 1, .inr (.inl out)))])) (jFr_r _) rfl rfl (fun E w hxw => ?_) (fun v w hvw => ?_)
  · obtain ⟨x4, rfl, hE4, rfl⟩ := hxw
    have hE4 := hE4.symm
    subst hE4
    have hf := jsum_l hf
    by_cases g5_0 : x4 = "java/lang/IndexOutOfBoundsException"
    · have hf := jifp hf g5_0
      refine ⟨wD t ad o oS oN oY oG oC oP oB d_hasSnapshot d_errorAt d_failedAt ++ (wS t ad oS h_count h_pitches h_wears h_slots h_borrowers h_dueDays h_contents r_count r_nextId r_ids r_borrowers r_pitches r_tolerances r_firstDays r_lastDays b_count b_hammers b_borrowers b_firstDays b_lastDays s_day s_coins s_bookingCoins s_lateCoins s_faceCosts s_broken s_lent ++ ([(ad (oL), .inl (t 3, 1, .inr (.inl out)))])), 13, (jmix_perm (bs := [wD t ad o oS oN oY oG oC oP oB d_hasSnapshot d_errorAt d_failedAt, wS t ad oS h_count h_pitches h_wears h_slots h_borrowers h_dueDays h_contents r_count r_nextId r_ids r_borrowers r_pitches r_tolerances r_firstDays r_lastDays b_count b_hammers b_borrowers b_firstDays b_lastDays s_day s_coins s_bookingCoins s_lateCoins s_faceCosts s_broken s_lent, [(ad (oL), .inl (t 3, 1, .inr (.inl out)))]]) (is := [0, 1]) (js := [2]) 3 rfl (by decide)).symm, ?_, fun q => ?_⟩
      · rw [g5_0]
        exact ⟨[], { startPc := 0, endPc := 10, handlerPc := 13, catchType := 15 }, [], "java/lang/IndexOutOfBoundsException", rfl, fun _ h => absurd h List.not_mem_nil, by decide, by decide, q599, q390, rfl⟩
      · change J X 1 6 (wD t ad o oS oN oY oG oC oP oB d_hasSnapshot d_errorAt d_failedAt ++ (wS t ad oS h_count h_pitches h_wears h_slots h_borrowers h_dueDays h_contents r_count r_nextId r_ids r_borrowers r_pitches r_tolerances r_firstDays r_lastDays b_count b_hammers b_borrowers b_firstDays b_lastDays s_day s_coins s_bookingCoins s_lateCoins s_faceCosts s_broken s_lent ++ ([(ad (oL), .inl (t 3, 1, .inr (.inl out)))]))) 13 [(0, .ref (ad o)), (1, .int a1), (2, .int a2), (3, .ref (ad oL))] [.ref q]
        refine j_astore hX [(4, .ref q), (0, .ref (ad o)), (1, .int a1), (2, .int a2), (3, .ref (ad oL))] dL_loudness_13 (by decide) rfl ?_
        refine j_iconst hX 1 dL_loudness_15 (by decide) ?_
        cases hf
        exact j_iret hX hE dL_loudness_16 (Nat.le_of_ble_eq_true rfl) (Nat.le_of_ble_eq_true rfl) ⟨rfl, rfl⟩
    have hf := jifn hf g5_0
    cases hf
  · obtain ⟨r3, rfl, rfl, rfl⟩ := hvw
    have hf := jsum_r hf
    change J X 1 6 ((wD t ad o oS oN oY oG oC oP oB d_hasSnapshot d_errorAt d_failedAt ++ (wS t ad oS h_count h_pitches h_wears h_slots h_borrowers h_dueDays h_contents r_count r_nextId r_ids r_borrowers r_pitches r_tolerances r_firstDays r_lastDays b_count b_hammers b_borrowers b_firstDays b_lastDays s_day s_coins s_bookingCoins s_lateCoins s_faceCosts s_broken s_lent)) ++ ([(ad (oL), .inl (t 3, 1, .inr (.inl out)))])) 8 [(0, .ref (ad o)), (1, .int a1), (2, .int a2), (3, .ref (ad oL))] [.int r3, .int 0, .ref (ad oL)]
    refine hmix [wD t ad o oS oN oY oG oC oP oB d_hasSnapshot d_errorAt d_failedAt, wS t ad oS h_count h_pitches h_wears h_slots h_borrowers h_dueDays h_contents r_count r_nextId r_ids r_borrowers r_pitches r_tolerances r_firstDays r_lastDays b_count b_hammers b_borrowers b_firstDays b_lastDays s_day s_coins s_bookingCoins s_lateCoins s_faceCosts s_broken s_lent, [(ad (oL), .inl (t 3, 1, .inr (.inl out)))]] _ _ _ _ _ rfl ?_
    change J X 1 6 (wD t ad o oS oN oY oG oC oP oB d_hasSnapshot d_errorAt d_failedAt ++ (wS t ad oS h_count h_pitches h_wears h_slots h_borrowers h_dueDays h_contents r_count r_nextId r_ids r_borrowers r_pitches r_tolerances r_firstDays r_lastDays b_count b_hammers b_borrowers b_firstDays b_lastDays s_day s_coins s_bookingCoins s_lateCoins s_faceCosts s_broken s_lent ++ ([(ad (oL), .inl (t 3, 1, .inr (.inl out)))]))) 8 [(0, .ref (ad o)), (1, .int a1), (2, .int a2), (3, .ref (ad oL))] [.int r3, .int 0, .ref (ad oL)]
    refine j_i2l hX dL_loudness_8 ?_
    refine j_last hX (wD t ad o oS oN oY oG oC oP oB d_hasSnapshot d_errorAt d_failedAt ++ (wS t ad oS h_count h_pitches h_wears h_slots h_borrowers h_dueDays h_contents r_count r_nextId r_ids r_borrowers r_pitches r_tolerances r_firstDays r_lastDays b_count b_hammers b_borrowers b_firstDays b_lastDays s_day s_coins s_bookingCoins s_lateCoins s_faceCosts s_broken s_lent ++ ([(ad (oL), .inl (t 3, 1, .inr (.inl (vp_updL out (0 : Int32).toNatClampNeg ((r3).toInt64)))))]))) dL_loudness_9 21 3 rfl rfl rfl hf (fun c9 hf => ?_)
    refine j_goto hX 17 dL_loudness_10 (by decide) ?_
    refine j_iconst hX 0 dL_loudness_17 (by decide) ?_
    cases hf
    exact j_iret hX hE dL_loudness_18 (Nat.le_of_ble_eq_true rfl) (Nat.le_of_ble_eq_true rfl) ⟨rfl, rfl⟩
-- HammerDepotLaw loudestPitch (LHammerDepot;I[J)I
def f_L_loudestPitch (h_count : Int32) (h_pitches : Nat → Int32) (h_contents : Nat → Int32) (out : Nat → Int64) (a1 : Int32) : Option (Int32 × (Nat → Int64)) :=
  Option.bind (f_X9_loudestPitch h_count h_pitches h_contents a1) (fun u1 => Sum.elim (fun x4 => if x4 = "java/lang/IndexOutOfBoundsException" then
    some (1, out)
  else
    if x4 = "java/util/NoSuchElementException" then
      some (2, out)
    else
      none) (fun r3 =>
    if jin 0 1 = true then
      some (0, vp_updL out (0 : Int32).toNatClampNeg ((r3).toInt64))
    else none) u1)
set_option maxHeartbeats 4000000 in
set_option maxRecDepth 100000 in
theorem k_L_loudestPitch {l : Launch} {D : va_G} {t : Nat → ClassId} {ad : Nat → Nat} {o oS oN oY oG oC oP oB oL : Nat} (hl : l.stackTraces = false) (d_hasSnapshot : Int32) (d_errorAt : Int32) (d_failedAt : Int32) (h_count : Int32) (h_pitches : Nat → Int32) (h_wears : Nat → Int32) (h_slots : Nat → Int32) (h_borrowers : Nat → Int32) (h_dueDays : Nat → Int32) (h_contents : Nat → Int32) (r_count : Int32) (r_nextId : Int32) (r_ids : Nat → Int32) (r_borrowers : Nat → Int32) (r_pitches : Nat → Int32) (r_tolerances : Nat → Int32) (r_firstDays : Nat → Int32) (r_lastDays : Nat → Int32) (b_count : Int32) (b_hammers : Nat → Int32) (b_borrowers : Nat → Int32) (b_firstDays : Nat → Int32) (b_lastDays : Nat → Int32) (s_day : Int32) (s_coins : Int32) (s_bookingCoins : Int32) (s_lateCoins : Int32) (s_faceCosts : Int32) (s_broken : Int32) (s_lent : Int32) (out : Nat → Int64) (a1 : Int32) (u : Int32 × (Nat → Int64)) (hf : f_L_loudestPitch h_count h_pitches h_contents out a1 = some u) : cmh l D (jT t) yL_loudestPitch cL_loudestPitch 4 (some FieldType.int) [(0, 9, 12, 15), (0, 9, 15, 34)] { frames := 8, cells := 2, slots := 12, locals := 132 } [.ref (ad o), .int a1, .ref (ad oL)] (wD t ad o oS oN oY oG oC oP oB d_hasSnapshot d_errorAt d_failedAt ++ (wS t ad oS h_count h_pitches h_wears h_slots h_borrowers h_dueDays h_contents r_count r_nextId r_ids r_borrowers r_pitches r_tolerances r_firstDays r_lastDays b_count b_hammers b_borrowers b_firstDays b_lastDays s_day s_coins s_bookingCoins s_lateCoins s_faceCosts s_broken s_lent ++ ([(ad (oL), .inl (t 3, 1, .inr (.inl out)))]))) (fun v w => v = (some (.int u.1)) ∧ w = wD t ad o oS oN oY oG oC oP oB d_hasSnapshot d_errorAt d_failedAt ++ (wS t ad oS h_count h_pitches h_wears h_slots h_borrowers h_dueDays h_contents r_count r_nextId r_ids r_borrowers r_pitches r_tolerances r_firstDays r_lastDays b_count b_hammers b_borrowers b_firstDays b_lastDays s_day s_coins s_bookingCoins s_lateCoins s_faceCosts s_broken s_lent ++ ([(ad (oL), .inl (t 3, 1, .inr (.inl u.2)))]))) := by
  refine cmh_of RL rfl (by decide +kernel) (Nat.le_of_ble_eq_true rfl) (fun X hX hE hTB => ?_)
  change J X 0 0 (wD t ad o oS oN oY oG oC oP oB d_hasSnapshot d_errorAt d_failedAt ++ (wS t ad oS h_count h_pitches h_wears h_slots h_borrowers h_dueDays h_contents r_count r_nextId r_ids r_borrowers r_pitches r_tolerances r_firstDays r_lastDays b_count b_hammers b_borrowers b_firstDays b_lastDays s_day s_coins s_bookingCoins s_lateCoins s_faceCosts s_broken s_lent ++ ([(ad (oL), .inl (t 3, 1, .inr (.inl out)))]))) 0 [(0, .ref (ad o)), (1, .int a1), (2, .ref (ad oL))] []
  unfold f_L_loudestPitch at hf
  refine j_aload_n hX dL_loudestPitch_0 rfl 2 rfl ?_
  refine j_iconst hX 0 dL_loudestPitch_1 (by decide) ?_
  refine j_aload_n hX dL_loudestPitch_2 rfl 0 rfl ?_
  refine j_iload_n hX dL_loudestPitch_3 rfl 1 rfl ?_
  obtain ⟨u1, h2, hf⟩ := jbind hf
  refine j_mix hX [wD t ad o oS oN oY oG oC oP oB d_hasSnapshot d_errorAt d_failedAt, wS t ad oS h_count h_pitches h_wears h_slots h_borrowers h_dueDays h_contents r_count r_nextId r_ids r_borrowers r_pitches r_tolerances r_firstDays r_lastDays b_count b_hammers b_borrowers b_firstDays b_lastDays s_day s_coins s_bookingCoins s_lateCoins s_faceCosts s_broken s_lent, [(ad (oL), .inl (t 3, 1, .inr (.inl out)))]] [0, 1] [2] 3 rfl (by decide) rfl (fun hmix => ?_)
  refine j_callVXC (a := 0) (b := 0) (st := [.int 0, .ref (ad oL)]) hX hTB (k_X9_loudestPitch (l := l) (D := D) (t := t) (ad := ad) (o := o) (oS := oS) (oN := oN) (oY := oY) (oG := oG) (oC := oC) (oP := oP) (oB := oB) hl d_hasSnapshot d_errorAt d_failedAt h_count h_pitches h_wears h_slots h_borrowers h_dueDays h_contents r_count r_nextId r_ids r_borrowers r_pitches r_tolerances r_firstDays r_lastDays b_count b_hammers b_borrowers b_firstDays b_lastDays s_day s_coins s_bookingCoins s_lateCoins s_faceCosts s_broken s_lent a1 u1 h2) q943 q944 q945 q1 q946 (n9 := 1) rfl ⟨by decide +kernel, by decide +kernel⟩ 0 rfl rfl rfl dL_loudestPitch_4 (Nat.le_of_ble_eq_true rfl) ⟨by decide, by decide⟩ (fun w : va_W => w ++ ([(ad (oL), .inl (t 3, 1, .inr (.inl out)))])) (jFr_r _) rfl rfl (fun E w hxw => ?_) (fun v w hvw => ?_)
  · obtain ⟨x4, rfl, hE4, rfl⟩ := hxw
    have hE4 := hE4.symm
    subst hE4
    have hf := jsum_l hf
    by_cases g4_0 : x4 = "java/lang/IndexOutOfBoundsException"
    · have hf := jifp hf g4_0
      refine ⟨wD t ad o oS oN oY oG oC oP oB d_hasSnapshot d_errorAt d_failedAt ++ (wS t ad oS h_count h_pitches h_wears h_slots h_borrowers h_dueDays h_contents r_count r_nextId r_ids r_borrowers r_pitches r_tolerances r_firstDays r_lastDays b_count b_hammers b_borrowers b_firstDays b_lastDays s_day s_coins s_bookingCoins s_lateCoins s_faceCosts s_broken s_lent ++ ([(ad (oL), .inl (t 3, 1, .inr (.inl out)))])), 12, (jmix_perm (bs := [wD t ad o oS oN oY oG oC oP oB d_hasSnapshot d_errorAt d_failedAt, wS t ad oS h_count h_pitches h_wears h_slots h_borrowers h_dueDays h_contents r_count r_nextId r_ids r_borrowers r_pitches r_tolerances r_firstDays r_lastDays b_count b_hammers b_borrowers b_firstDays b_lastDays s_day s_coins s_bookingCoins s_lateCoins s_faceCosts s_broken s_lent, [(ad (oL), .inl (t 3, 1, .inr (.inl out)))]]) (is := [0, 1]) (js := [2]) 3 rfl (by decide)).symm, ?_, fun q => ?_⟩
      · rw [g4_0]
        exact ⟨[], { startPc := 0, endPc := 9, handlerPc := 12, catchType := 15 }, [{ startPc := 0, endPc := 9, handlerPc := 15, catchType := 34 }], "java/lang/IndexOutOfBoundsException", rfl, fun _ h => absurd h List.not_mem_nil, by decide, by decide, q599, q390, rfl⟩
      · change J X 2 12 (wD t ad o oS oN oY oG oC oP oB d_hasSnapshot d_errorAt d_failedAt ++ (wS t ad oS h_count h_pitches h_wears h_slots h_borrowers h_dueDays h_contents r_count r_nextId r_ids r_borrowers r_pitches r_tolerances r_firstDays r_lastDays b_count b_hammers b_borrowers b_firstDays b_lastDays s_day s_coins s_bookingCoins s_lateCoins s_faceCosts s_broken s_lent ++ ([(ad (oL), .inl (t 3, 1, .inr (.inl out)))]))) 12 [(0, .ref (ad o)), (1, .int a1), (2, .ref (ad oL))] [.ref q]
        refine j_astore_n hX [(3, .ref q), (0, .ref (ad o)), (1, .int a1), (2, .ref (ad oL))] dL_loudestPitch_12 rfl (by decide) rfl ?_
        refine j_iconst hX 1 dL_loudestPitch_13 (by decide) ?_
        cases hf
        exact j_iret hX hE dL_loudestPitch_14 (Nat.le_of_ble_eq_true rfl) (Nat.le_of_ble_eq_true rfl) ⟨rfl, rfl⟩
    have hf := jifn hf g4_0
    by_cases g4_1 : x4 = "java/util/NoSuchElementException"
    · have hf := jifp hf g4_1
      refine ⟨wD t ad o oS oN oY oG oC oP oB d_hasSnapshot d_errorAt d_failedAt ++ (wS t ad oS h_count h_pitches h_wears h_slots h_borrowers h_dueDays h_contents r_count r_nextId r_ids r_borrowers r_pitches r_tolerances r_firstDays r_lastDays b_count b_hammers b_borrowers b_firstDays b_lastDays s_day s_coins s_bookingCoins s_lateCoins s_faceCosts s_broken s_lent ++ ([(ad (oL), .inl (t 3, 1, .inr (.inl out)))])), 15, (jmix_perm (bs := [wD t ad o oS oN oY oG oC oP oB d_hasSnapshot d_errorAt d_failedAt, wS t ad oS h_count h_pitches h_wears h_slots h_borrowers h_dueDays h_contents r_count r_nextId r_ids r_borrowers r_pitches r_tolerances r_firstDays r_lastDays b_count b_hammers b_borrowers b_firstDays b_lastDays s_day s_coins s_bookingCoins s_lateCoins s_faceCosts s_broken s_lent, [(ad (oL), .inl (t 3, 1, .inr (.inl out)))]]) (is := [0, 1]) (js := [2]) 3 rfl (by decide)).symm, ?_, fun q => ?_⟩
      · rw [g4_1]
        exact ⟨[{ startPc := 0, endPc := 9, handlerPc := 12, catchType := 15 }], { startPc := 0, endPc := 9, handlerPc := 15, catchType := 34 }, [], "java/util/NoSuchElementException", rfl, List.forall_mem_cons.mpr ⟨⟨by decide, "java/lang/IndexOutOfBoundsException", q599, List.mem_of_getElem? (i := 28) rfl⟩, fun _ h => absurd h List.not_mem_nil⟩, by decide, by decide, q691, q406, rfl⟩
      · change J X 2 12 (wD t ad o oS oN oY oG oC oP oB d_hasSnapshot d_errorAt d_failedAt ++ (wS t ad oS h_count h_pitches h_wears h_slots h_borrowers h_dueDays h_contents r_count r_nextId r_ids r_borrowers r_pitches r_tolerances r_firstDays r_lastDays b_count b_hammers b_borrowers b_firstDays b_lastDays s_day s_coins s_bookingCoins s_lateCoins s_faceCosts s_broken s_lent ++ ([(ad (oL), .inl (t 3, 1, .inr (.inl out)))]))) 15 [(0, .ref (ad o)), (1, .int a1), (2, .ref (ad oL))] [.ref q]
        refine j_astore_n hX [(3, .ref q), (0, .ref (ad o)), (1, .int a1), (2, .ref (ad oL))] dL_loudestPitch_15 rfl (by decide) rfl ?_
        refine j_iconst hX 2 dL_loudestPitch_16 (by decide) ?_
        cases hf
        exact j_iret hX hE dL_loudestPitch_17 (Nat.le_of_ble_eq_true rfl) (Nat.le_of_ble_eq_true rfl) ⟨rfl, rfl⟩
    have hf := jifn hf g4_1
    cases hf
  · obtain ⟨r3, rfl, rfl, rfl⟩ := hvw
    have hf := jsum_r hf
    change J X 2 12 ((wD t ad o oS oN oY oG oC oP oB d_hasSnapshot d_errorAt d_failedAt ++ (wS t ad oS h_count h_pitches h_wears h_slots h_borrowers h_dueDays h_contents r_count r_nextId r_ids r_borrowers r_pitches r_tolerances r_firstDays r_lastDays b_count b_hammers b_borrowers b_firstDays b_lastDays s_day s_coins s_bookingCoins s_lateCoins s_faceCosts s_broken s_lent)) ++ ([(ad (oL), .inl (t 3, 1, .inr (.inl out)))])) 7 [(0, .ref (ad o)), (1, .int a1), (2, .ref (ad oL))] [.int r3, .int 0, .ref (ad oL)]
    refine hmix [wD t ad o oS oN oY oG oC oP oB d_hasSnapshot d_errorAt d_failedAt, wS t ad oS h_count h_pitches h_wears h_slots h_borrowers h_dueDays h_contents r_count r_nextId r_ids r_borrowers r_pitches r_tolerances r_firstDays r_lastDays b_count b_hammers b_borrowers b_firstDays b_lastDays s_day s_coins s_bookingCoins s_lateCoins s_faceCosts s_broken s_lent, [(ad (oL), .inl (t 3, 1, .inr (.inl out)))]] _ _ _ _ _ rfl ?_
    change J X 2 12 (wD t ad o oS oN oY oG oC oP oB d_hasSnapshot d_errorAt d_failedAt ++ (wS t ad oS h_count h_pitches h_wears h_slots h_borrowers h_dueDays h_contents r_count r_nextId r_ids r_borrowers r_pitches r_tolerances r_firstDays r_lastDays b_count b_hammers b_borrowers b_firstDays b_lastDays s_day s_coins s_bookingCoins s_lateCoins s_faceCosts s_broken s_lent ++ ([(ad (oL), .inl (t 3, 1, .inr (.inl out)))]))) 7 [(0, .ref (ad o)), (1, .int a1), (2, .ref (ad oL))] [.int r3, .int 0, .ref (ad oL)]
    refine j_i2l hX dL_loudestPitch_7 ?_
    refine j_last hX (wD t ad o oS oN oY oG oC oP oB d_hasSnapshot d_errorAt d_failedAt ++ (wS t ad oS h_count h_pitches h_wears h_slots h_borrowers h_dueDays h_contents r_count r_nextId r_ids r_borrowers r_pitches r_tolerances r_firstDays r_lastDays b_count b_hammers b_borrowers b_firstDays b_lastDays s_day s_coins s_bookingCoins s_lateCoins s_faceCosts s_broken s_lent ++ ([(ad (oL), .inl (t 3, 1, .inr (.inl (vp_updL out (0 : Int32).toNatClampNeg ((r3).toInt64)))))]))) dL_loudestPitch_8 21 3 rfl rfl rfl hf (fun c8 hf => ?_)
    refine j_goto hX 18 dL_loudestPitch_9 (by decide) ?_
    refine j_iconst hX 0 dL_loudestPitch_18 (by decide) ?_
    cases hf
    exact j_iret hX hE dL_loudestPitch_19 (Nat.le_of_ble_eq_true rfl) (Nat.le_of_ble_eq_true rfl) ⟨rfl, rfl⟩
-- HammerDepotLaw consonance (LHammerDepot;II[J)I
def f_L_consonance (h_count : Int32) (h_pitches : Nat → Int32) (out : Nat → Int64) (a1 : Int32) (a2 : Int32) : Option (Int32 × (Nat → Int64)) :=
  Option.bind (f_X9_consonance h_count h_pitches a1 a2) (fun u1 => Sum.elim (fun x4 => if x4 = "java/lang/IndexOutOfBoundsException" then
    some (1, out)
  else
    none) (fun r3 =>
    if jin 0 1 = true then
      some (0, vp_updL out (0 : Int32).toNatClampNeg ((r3).toInt64))
    else none) u1)
set_option maxHeartbeats 4000000 in
set_option maxRecDepth 100000 in
theorem k_L_consonance {l : Launch} {D : va_G} {t : Nat → ClassId} {ad : Nat → Nat} {o oS oN oY oG oC oP oB oL : Nat} (hl : l.stackTraces = false) (d_hasSnapshot : Int32) (d_errorAt : Int32) (d_failedAt : Int32) (h_count : Int32) (h_pitches : Nat → Int32) (h_wears : Nat → Int32) (h_slots : Nat → Int32) (h_borrowers : Nat → Int32) (h_dueDays : Nat → Int32) (h_contents : Nat → Int32) (r_count : Int32) (r_nextId : Int32) (r_ids : Nat → Int32) (r_borrowers : Nat → Int32) (r_pitches : Nat → Int32) (r_tolerances : Nat → Int32) (r_firstDays : Nat → Int32) (r_lastDays : Nat → Int32) (b_count : Int32) (b_hammers : Nat → Int32) (b_borrowers : Nat → Int32) (b_firstDays : Nat → Int32) (b_lastDays : Nat → Int32) (s_day : Int32) (s_coins : Int32) (s_bookingCoins : Int32) (s_lateCoins : Int32) (s_faceCosts : Int32) (s_broken : Int32) (s_lent : Int32) (out : Nat → Int64) (a1 : Int32) (a2 : Int32) (u : Int32 × (Nat → Int64)) (hf : f_L_consonance h_count h_pitches out a1 a2 = some u) : cmh l D (jT t) yL_consonance cL_consonance 5 (some FieldType.int) [(0, 10, 13, 15)] { frames := 8, cells := 2, slots := 12, locals := 133 } [.ref (ad o), .int a1, .int a2, .ref (ad oL)] (wD t ad o oS oN oY oG oC oP oB d_hasSnapshot d_errorAt d_failedAt ++ (wS t ad oS h_count h_pitches h_wears h_slots h_borrowers h_dueDays h_contents r_count r_nextId r_ids r_borrowers r_pitches r_tolerances r_firstDays r_lastDays b_count b_hammers b_borrowers b_firstDays b_lastDays s_day s_coins s_bookingCoins s_lateCoins s_faceCosts s_broken s_lent ++ ([(ad (oL), .inl (t 3, 1, .inr (.inl out)))]))) (fun v w => v = (some (.int u.1)) ∧ w = wD t ad o oS oN oY oG oC oP oB d_hasSnapshot d_errorAt d_failedAt ++ (wS t ad oS h_count h_pitches h_wears h_slots h_borrowers h_dueDays h_contents r_count r_nextId r_ids r_borrowers r_pitches r_tolerances r_firstDays r_lastDays b_count b_hammers b_borrowers b_firstDays b_lastDays s_day s_coins s_bookingCoins s_lateCoins s_faceCosts s_broken s_lent ++ ([(ad (oL), .inl (t 3, 1, .inr (.inl u.2)))]))) := by
  refine cmh_of RL rfl (by decide +kernel) (Nat.le_of_ble_eq_true rfl) (fun X hX hE hTB => ?_)
  change J X 0 0 (wD t ad o oS oN oY oG oC oP oB d_hasSnapshot d_errorAt d_failedAt ++ (wS t ad oS h_count h_pitches h_wears h_slots h_borrowers h_dueDays h_contents r_count r_nextId r_ids r_borrowers r_pitches r_tolerances r_firstDays r_lastDays b_count b_hammers b_borrowers b_firstDays b_lastDays s_day s_coins s_bookingCoins s_lateCoins s_faceCosts s_broken s_lent ++ ([(ad (oL), .inl (t 3, 1, .inr (.inl out)))]))) 0 [(0, .ref (ad o)), (1, .int a1), (2, .int a2), (3, .ref (ad oL))] []
  unfold f_L_consonance at hf
  refine j_aload_n hX dL_consonance_0 rfl 3 rfl ?_
  refine j_iconst hX 0 dL_consonance_1 (by decide) ?_
  refine j_aload_n hX dL_consonance_2 rfl 0 rfl ?_
  refine j_iload_n hX dL_consonance_3 rfl 1 rfl ?_
  refine j_iload_n hX dL_consonance_4 rfl 2 rfl ?_
  obtain ⟨u1, h2, hf⟩ := jbind hf
  refine j_mix hX [wD t ad o oS oN oY oG oC oP oB d_hasSnapshot d_errorAt d_failedAt, wS t ad oS h_count h_pitches h_wears h_slots h_borrowers h_dueDays h_contents r_count r_nextId r_ids r_borrowers r_pitches r_tolerances r_firstDays r_lastDays b_count b_hammers b_borrowers b_firstDays b_lastDays s_day s_coins s_bookingCoins s_lateCoins s_faceCosts s_broken s_lent, [(ad (oL), .inl (t 3, 1, .inr (.inl out)))]] [0, 1] [2] 3 rfl (by decide) rfl (fun hmix => ?_)
  refine j_callVXC (a := 0) (b := 0) (st := [.int 0, .ref (ad oL)]) hX hTB (k_X9_consonance (l := l) (D := D) (t := t) (ad := ad) (o := o) (oS := oS) (oN := oN) (oY := oY) (oG := oG) (oC := oC) (oP := oP) (oB := oB) hl d_hasSnapshot d_errorAt d_failedAt h_count h_pitches h_wears h_slots h_borrowers h_dueDays h_contents r_count r_nextId r_ids r_borrowers r_pitches r_tolerances r_firstDays r_lastDays b_count b_hammers b_borrowers b_firstDays b_lastDays s_day s_coins s_bookingCoins s_lateCoins s_faceCosts s_broken s_lent a1 a2 u1 h2) q958 q959 q960 q1 q961 (n9 := 2) rfl ⟨by decide +kernel, by decide +kernel⟩ 0 rfl rfl rfl dL_consonance_5 (Nat.le_of_ble_eq_true rfl) ⟨by decide, by decide⟩ (fun w : va_W => w ++ ([(ad (oL), .inl (t 3, 1, .inr (.inl out)))])) (jFr_r _) rfl rfl (fun E w hxw => ?_) (fun v w hvw => ?_)
  · obtain ⟨x4, rfl, hE4, rfl⟩ := hxw
    have hE4 := hE4.symm
    subst hE4
    have hf := jsum_l hf
    by_cases g5_0 : x4 = "java/lang/IndexOutOfBoundsException"
    · have hf := jifp hf g5_0
      refine ⟨wD t ad o oS oN oY oG oC oP oB d_hasSnapshot d_errorAt d_failedAt ++ (wS t ad oS h_count h_pitches h_wears h_slots h_borrowers h_dueDays h_contents r_count r_nextId r_ids r_borrowers r_pitches r_tolerances r_firstDays r_lastDays b_count b_hammers b_borrowers b_firstDays b_lastDays s_day s_coins s_bookingCoins s_lateCoins s_faceCosts s_broken s_lent ++ ([(ad (oL), .inl (t 3, 1, .inr (.inl out)))])), 13, (jmix_perm (bs := [wD t ad o oS oN oY oG oC oP oB d_hasSnapshot d_errorAt d_failedAt, wS t ad oS h_count h_pitches h_wears h_slots h_borrowers h_dueDays h_contents r_count r_nextId r_ids r_borrowers r_pitches r_tolerances r_firstDays r_lastDays b_count b_hammers b_borrowers b_firstDays b_lastDays s_day s_coins s_bookingCoins s_lateCoins s_faceCosts s_broken s_lent, [(ad (oL), .inl (t 3, 1, .inr (.inl out)))]]) (is := [0, 1]) (js := [2]) 3 rfl (by decide)).symm, ?_, fun q => ?_⟩
      · rw [g5_0]
        exact ⟨[], { startPc := 0, endPc := 10, handlerPc := 13, catchType := 15 }, [], "java/lang/IndexOutOfBoundsException", rfl, fun _ h => absurd h List.not_mem_nil, by decide, by decide, q599, q390, rfl⟩
      · change J X 2 12 (wD t ad o oS oN oY oG oC oP oB d_hasSnapshot d_errorAt d_failedAt ++ (wS t ad oS h_count h_pitches h_wears h_slots h_borrowers h_dueDays h_contents r_count r_nextId r_ids r_borrowers r_pitches r_tolerances r_firstDays r_lastDays b_count b_hammers b_borrowers b_firstDays b_lastDays s_day s_coins s_bookingCoins s_lateCoins s_faceCosts s_broken s_lent ++ ([(ad (oL), .inl (t 3, 1, .inr (.inl out)))]))) 13 [(0, .ref (ad o)), (1, .int a1), (2, .int a2), (3, .ref (ad oL))] [.ref q]
        refine j_astore hX [(4, .ref q), (0, .ref (ad o)), (1, .int a1), (2, .int a2), (3, .ref (ad oL))] dL_consonance_13 (by decide) rfl ?_
        refine j_iconst hX 1 dL_consonance_15 (by decide) ?_
        cases hf
        exact j_iret hX hE dL_consonance_16 (Nat.le_of_ble_eq_true rfl) (Nat.le_of_ble_eq_true rfl) ⟨rfl, rfl⟩
    have hf := jifn hf g5_0
    cases hf
  · obtain ⟨r3, rfl, rfl, rfl⟩ := hvw
    have hf := jsum_r hf
    change J X 2 12 ((wD t ad o oS oN oY oG oC oP oB d_hasSnapshot d_errorAt d_failedAt ++ (wS t ad oS h_count h_pitches h_wears h_slots h_borrowers h_dueDays h_contents r_count r_nextId r_ids r_borrowers r_pitches r_tolerances r_firstDays r_lastDays b_count b_hammers b_borrowers b_firstDays b_lastDays s_day s_coins s_bookingCoins s_lateCoins s_faceCosts s_broken s_lent)) ++ ([(ad (oL), .inl (t 3, 1, .inr (.inl out)))])) 8 [(0, .ref (ad o)), (1, .int a1), (2, .int a2), (3, .ref (ad oL))] [.int r3, .int 0, .ref (ad oL)]
    refine hmix [wD t ad o oS oN oY oG oC oP oB d_hasSnapshot d_errorAt d_failedAt, wS t ad oS h_count h_pitches h_wears h_slots h_borrowers h_dueDays h_contents r_count r_nextId r_ids r_borrowers r_pitches r_tolerances r_firstDays r_lastDays b_count b_hammers b_borrowers b_firstDays b_lastDays s_day s_coins s_bookingCoins s_lateCoins s_faceCosts s_broken s_lent, [(ad (oL), .inl (t 3, 1, .inr (.inl out)))]] _ _ _ _ _ rfl ?_
    change J X 2 12 (wD t ad o oS oN oY oG oC oP oB d_hasSnapshot d_errorAt d_failedAt ++ (wS t ad oS h_count h_pitches h_wears h_slots h_borrowers h_dueDays h_contents r_count r_nextId r_ids r_borrowers r_pitches r_tolerances r_firstDays r_lastDays b_count b_hammers b_borrowers b_firstDays b_lastDays s_day s_coins s_bookingCoins s_lateCoins s_faceCosts s_broken s_lent ++ ([(ad (oL), .inl (t 3, 1, .inr (.inl out)))]))) 8 [(0, .ref (ad o)), (1, .int a1), (2, .int a2), (3, .ref (ad oL))] [.int r3, .int 0, .ref (ad oL)]
    refine j_i2l hX dL_consonance_8 ?_
    refine j_last hX (wD t ad o oS oN oY oG oC oP oB d_hasSnapshot d_errorAt d_failedAt ++ (wS t ad oS h_count h_pitches h_wears h_slots h_borrowers h_dueDays h_contents r_count r_nextId r_ids r_borrowers r_pitches r_tolerances r_firstDays r_lastDays b_count b_hammers b_borrowers b_firstDays b_lastDays s_day s_coins s_bookingCoins s_lateCoins s_faceCosts s_broken s_lent ++ ([(ad (oL), .inl (t 3, 1, .inr (.inl (vp_updL out (0 : Int32).toNatClampNeg ((r3).toInt64)))))]))) dL_consonance_9 21 3 rfl rfl rfl hf (fun c9 hf => ?_)
    refine j_goto hX 17 dL_consonance_10 (by decide) ?_
    refine j_iconst hX 0 dL_consonance_17 (by decide) ?_
    cases hf
    exact j_iret hX hE dL_consonance_18 (Nat.le_of_ble_eq_true rfl) (Nat.le_of_ble_eq_true rfl) ⟨rfl, rfl⟩
-- HammerDepotLaw bestChord (LHammerDepot;I[J)I
def f_L_bestChord (h_count : Int32) (h_pitches : Nat → Int32) (h_slots : Nat → Int32) (c_count : Int32) (c_size : Int32) (c_pitches : Nat → Int32) (c_consonances : Nat → Int32) (out : Nat → Int64) (a1 : Int32) : Option (Int32 × Int32 × Int32 × (Nat → Int32) × (Nat → Int32) × (Nat → Int64)) :=
  Option.bind (f_X9_bestChord h_count h_pitches h_slots c_count c_size c_pitches c_consonances a1) (fun u1 => Sum.elim (fun x4 => if x4.1 = "java/lang/IllegalArgumentException" then
    some (1, x4.2.1, x4.2.2.1, x4.2.2.2.1, x4.2.2.2.2, out)
  else
    if x4.1 = "java/util/NoSuchElementException" then
      some (2, x4.2.1, x4.2.2.1, x4.2.2.2.1, x4.2.2.2.2, out)
    else
      none) (fun r3 =>
    if jin 0 1 = true then
      some (0, r3.2.1, r3.2.2.1, r3.2.2.2.1, r3.2.2.2.2, vp_updL out (0 : Int32).toNatClampNeg ((r3.1).toInt64))
    else none) u1)
set_option maxHeartbeats 4000000 in
set_option maxRecDepth 100000 in
theorem k_L_bestChord {l : Launch} {D : va_G} {t : Nat → ClassId} {ad : Nat → Nat} {o oS oN oY oG oC oP oB oL : Nat} (hl : l.stackTraces = false) (d_hasSnapshot : Int32) (d_errorAt : Int32) (d_failedAt : Int32) (h_count : Int32) (h_pitches : Nat → Int32) (h_wears : Nat → Int32) (h_slots : Nat → Int32) (h_borrowers : Nat → Int32) (h_dueDays : Nat → Int32) (h_contents : Nat → Int32) (r_count : Int32) (r_nextId : Int32) (r_ids : Nat → Int32) (r_borrowers : Nat → Int32) (r_pitches : Nat → Int32) (r_tolerances : Nat → Int32) (r_firstDays : Nat → Int32) (r_lastDays : Nat → Int32) (b_count : Int32) (b_hammers : Nat → Int32) (b_borrowers : Nat → Int32) (b_firstDays : Nat → Int32) (b_lastDays : Nat → Int32) (s_day : Int32) (s_coins : Int32) (s_bookingCoins : Int32) (s_lateCoins : Int32) (s_faceCosts : Int32) (s_broken : Int32) (s_lent : Int32) (c_count : Int32) (c_size : Int32) (c_pitches : Nat → Int32) (c_consonances : Nat → Int32) (out : Nat → Int64) (a1 : Int32) (u : Int32 × Int32 × Int32 × (Nat → Int32) × (Nat → Int32) × (Nat → Int64)) (hf : f_L_bestChord h_count h_pitches h_slots c_count c_size c_pitches c_consonances out a1 = some u) : cmh l D (jT t) yL_bestChord cL_bestChord 4 (some FieldType.int) [(0, 9, 12, 13), (0, 9, 15, 34)] { frames := 21, cells := 1, slots := 6, locals := 565 } [.ref (ad o), .int a1, .ref (ad oL)] (wD t ad o oS oN oY oG oC oP oB d_hasSnapshot d_errorAt d_failedAt ++ (wS t ad oS h_count h_pitches h_wears h_slots h_borrowers h_dueDays h_contents r_count r_nextId r_ids r_borrowers r_pitches r_tolerances r_firstDays r_lastDays b_count b_hammers b_borrowers b_firstDays b_lastDays s_day s_coins s_bookingCoins s_lateCoins s_faceCosts s_broken s_lent ++ (wC t ad oC c_count c_size c_pitches c_consonances ++ ([(ad (oL), .inl (t 3, 1, .inr (.inl out)))])))) (fun v w => v = (some (.int u.1)) ∧ w = wD t ad o oS oN oY oG oC oP oB d_hasSnapshot d_errorAt d_failedAt ++ (wS t ad oS h_count h_pitches h_wears h_slots h_borrowers h_dueDays h_contents r_count r_nextId r_ids r_borrowers r_pitches r_tolerances r_firstDays r_lastDays b_count b_hammers b_borrowers b_firstDays b_lastDays s_day s_coins s_bookingCoins s_lateCoins s_faceCosts s_broken s_lent ++ (wC t ad oC u.2.1 u.2.2.1 u.2.2.2.1 u.2.2.2.2.1 ++ ([(ad (oL), .inl (t 3, 1, .inr (.inl u.2.2.2.2.2)))])))) := by
  refine cmh_of RL rfl (by decide +kernel) (Nat.le_of_ble_eq_true rfl) (fun X hX hE hTB => ?_)
  change J X 0 0 (wD t ad o oS oN oY oG oC oP oB d_hasSnapshot d_errorAt d_failedAt ++ (wS t ad oS h_count h_pitches h_wears h_slots h_borrowers h_dueDays h_contents r_count r_nextId r_ids r_borrowers r_pitches r_tolerances r_firstDays r_lastDays b_count b_hammers b_borrowers b_firstDays b_lastDays s_day s_coins s_bookingCoins s_lateCoins s_faceCosts s_broken s_lent ++ (wC t ad oC c_count c_size c_pitches c_consonances ++ ([(ad (oL), .inl (t 3, 1, .inr (.inl out)))])))) 0 [(0, .ref (ad o)), (1, .int a1), (2, .ref (ad oL))] []
  unfold f_L_bestChord at hf
  refine j_aload_n hX dL_bestChord_0 rfl 2 rfl ?_
  refine j_iconst hX 0 dL_bestChord_1 (by decide) ?_
  refine j_aload_n hX dL_bestChord_2 rfl 0 rfl ?_
  refine j_iload_n hX dL_bestChord_3 rfl 1 rfl ?_
  obtain ⟨u1, h2, hf⟩ := jbind hf
  refine j_mix hX [wD t ad o oS oN oY oG oC oP oB d_hasSnapshot d_errorAt d_failedAt, wS t ad oS h_count h_pitches h_wears h_slots h_borrowers h_dueDays h_contents r_count r_nextId r_ids r_borrowers r_pitches r_tolerances r_firstDays r_lastDays b_count b_hammers b_borrowers b_firstDays b_lastDays s_day s_coins s_bookingCoins s_lateCoins s_faceCosts s_broken s_lent, wC t ad oC c_count c_size c_pitches c_consonances, [(ad (oL), .inl (t 3, 1, .inr (.inl out)))]] [0, 1, 2] [3] 4 rfl (by decide) rfl (fun hmix => ?_)
  refine j_callVXC (a := 0) (b := 0) (st := [.int 0, .ref (ad oL)]) hX hTB (k_X9_bestChord (l := l) (D := D) (t := t) (ad := ad) (o := o) (oS := oS) (oN := oN) (oY := oY) (oG := oG) (oC := oC) (oP := oP) (oB := oB) hl d_hasSnapshot d_errorAt d_failedAt h_count h_pitches h_wears h_slots h_borrowers h_dueDays h_contents r_count r_nextId r_ids r_borrowers r_pitches r_tolerances r_firstDays r_lastDays b_count b_hammers b_borrowers b_firstDays b_lastDays s_day s_coins s_bookingCoins s_lateCoins s_faceCosts s_broken s_lent c_count c_size c_pitches c_consonances a1 u1 h2) q966 q967 q968 q1 q969 (n9 := 1) rfl ⟨by decide +kernel, by decide +kernel⟩ 0 rfl rfl rfl dL_bestChord_4 (Nat.le_of_ble_eq_true rfl) ⟨by decide, by decide⟩ (fun w : va_W => w ++ ([(ad (oL), .inl (t 3, 1, .inr (.inl out)))])) (jFr_r _) rfl rfl (fun E w hxw => ?_) (fun v w hvw => ?_)
  · obtain ⟨x4, rfl, rfl, rfl⟩ := hxw
    have hf := jsum_l hf
    by_cases g4_0 : x4.1 = "java/lang/IllegalArgumentException"
    · have hf := jifp hf g4_0
      refine ⟨wD t ad o oS oN oY oG oC oP oB d_hasSnapshot d_errorAt d_failedAt ++ (wS t ad oS h_count h_pitches h_wears h_slots h_borrowers h_dueDays h_contents r_count r_nextId r_ids r_borrowers r_pitches r_tolerances r_firstDays r_lastDays b_count b_hammers b_borrowers b_firstDays b_lastDays s_day s_coins s_bookingCoins s_lateCoins s_faceCosts s_broken s_lent ++ (wC t ad oC x4.2.1 x4.2.2.1 x4.2.2.2.1 x4.2.2.2.2 ++ ([(ad (oL), .inl (t 3, 1, .inr (.inl out)))]))), 12, (jmix_perm (bs := [wD t ad o oS oN oY oG oC oP oB d_hasSnapshot d_errorAt d_failedAt, wS t ad oS h_count h_pitches h_wears h_slots h_borrowers h_dueDays h_contents r_count r_nextId r_ids r_borrowers r_pitches r_tolerances r_firstDays r_lastDays b_count b_hammers b_borrowers b_firstDays b_lastDays s_day s_coins s_bookingCoins s_lateCoins s_faceCosts s_broken s_lent, wC t ad oC x4.2.1 x4.2.2.1 x4.2.2.2.1 x4.2.2.2.2, [(ad (oL), .inl (t 3, 1, .inr (.inl out)))]]) (is := [0, 1, 2]) (js := [3]) 4 rfl (by decide)).symm, ?_, fun q => ?_⟩
      · rw [g4_0]
        exact ⟨[], { startPc := 0, endPc := 9, handlerPc := 12, catchType := 13 }, [{ startPc := 0, endPc := 9, handlerPc := 15, catchType := 34 }], "java/lang/IllegalArgumentException", rfl, fun _ h => absurd h List.not_mem_nil, by decide, by decide, q598, q343, rfl⟩
      · change J X 1 6 (wD t ad o oS oN oY oG oC oP oB d_hasSnapshot d_errorAt d_failedAt ++ (wS t ad oS h_count h_pitches h_wears h_slots h_borrowers h_dueDays h_contents r_count r_nextId r_ids r_borrowers r_pitches r_tolerances r_firstDays r_lastDays b_count b_hammers b_borrowers b_firstDays b_lastDays s_day s_coins s_bookingCoins s_lateCoins s_faceCosts s_broken s_lent ++ (wC t ad oC x4.2.1 x4.2.2.1 x4.2.2.2.1 x4.2.2.2.2 ++ ([(ad (oL), .inl (t 3, 1, .inr (.inl out)))])))) 12 [(0, .ref (ad o)), (1, .int a1), (2, .ref (ad oL))] [.ref q]
        refine j_astore_n hX [(3, .ref q), (0, .ref (ad o)), (1, .int a1), (2, .ref (ad oL))] dL_bestChord_12 rfl (by decide) rfl ?_
        refine j_iconst hX 1 dL_bestChord_13 (by decide) ?_
        cases hf
        exact j_iret hX hE dL_bestChord_14 (Nat.le_of_ble_eq_true rfl) (Nat.le_of_ble_eq_true rfl) ⟨rfl, rfl⟩
    have hf := jifn hf g4_0
    by_cases g4_1 : x4.1 = "java/util/NoSuchElementException"
    · have hf := jifp hf g4_1
      refine ⟨wD t ad o oS oN oY oG oC oP oB d_hasSnapshot d_errorAt d_failedAt ++ (wS t ad oS h_count h_pitches h_wears h_slots h_borrowers h_dueDays h_contents r_count r_nextId r_ids r_borrowers r_pitches r_tolerances r_firstDays r_lastDays b_count b_hammers b_borrowers b_firstDays b_lastDays s_day s_coins s_bookingCoins s_lateCoins s_faceCosts s_broken s_lent ++ (wC t ad oC x4.2.1 x4.2.2.1 x4.2.2.2.1 x4.2.2.2.2 ++ ([(ad (oL), .inl (t 3, 1, .inr (.inl out)))]))), 15, (jmix_perm (bs := [wD t ad o oS oN oY oG oC oP oB d_hasSnapshot d_errorAt d_failedAt, wS t ad oS h_count h_pitches h_wears h_slots h_borrowers h_dueDays h_contents r_count r_nextId r_ids r_borrowers r_pitches r_tolerances r_firstDays r_lastDays b_count b_hammers b_borrowers b_firstDays b_lastDays s_day s_coins s_bookingCoins s_lateCoins s_faceCosts s_broken s_lent, wC t ad oC x4.2.1 x4.2.2.1 x4.2.2.2.1 x4.2.2.2.2, [(ad (oL), .inl (t 3, 1, .inr (.inl out)))]]) (is := [0, 1, 2]) (js := [3]) 4 rfl (by decide)).symm, ?_, fun q => ?_⟩
      · rw [g4_1]
        exact ⟨[{ startPc := 0, endPc := 9, handlerPc := 12, catchType := 13 }], { startPc := 0, endPc := 9, handlerPc := 15, catchType := 34 }, [], "java/util/NoSuchElementException", rfl, List.forall_mem_cons.mpr ⟨⟨by decide, "java/lang/IllegalArgumentException", q598, List.mem_of_getElem? (i := 26) rfl⟩, fun _ h => absurd h List.not_mem_nil⟩, by decide, by decide, q691, q406, rfl⟩
      · change J X 1 6 (wD t ad o oS oN oY oG oC oP oB d_hasSnapshot d_errorAt d_failedAt ++ (wS t ad oS h_count h_pitches h_wears h_slots h_borrowers h_dueDays h_contents r_count r_nextId r_ids r_borrowers r_pitches r_tolerances r_firstDays r_lastDays b_count b_hammers b_borrowers b_firstDays b_lastDays s_day s_coins s_bookingCoins s_lateCoins s_faceCosts s_broken s_lent ++ (wC t ad oC x4.2.1 x4.2.2.1 x4.2.2.2.1 x4.2.2.2.2 ++ ([(ad (oL), .inl (t 3, 1, .inr (.inl out)))])))) 15 [(0, .ref (ad o)), (1, .int a1), (2, .ref (ad oL))] [.ref q]
        refine j_astore_n hX [(3, .ref q), (0, .ref (ad o)), (1, .int a1), (2, .ref (ad oL))] dL_bestChord_15 rfl (by decide) rfl ?_
        refine j_iconst hX 2 dL_bestChord_16 (by decide) ?_
        cases hf
        exact j_iret hX hE dL_bestChord_17 (Nat.le_of_ble_eq_true rfl) (Nat.le_of_ble_eq_true rfl) ⟨rfl, rfl⟩
    have hf := jifn hf g4_1
    cases hf
  · obtain ⟨r3, rfl, rfl, rfl⟩ := hvw
    have hf := jsum_r hf
    change J X 1 6 ((wD t ad o oS oN oY oG oC oP oB d_hasSnapshot d_errorAt d_failedAt ++ (wS t ad oS h_count h_pitches h_wears h_slots h_borrowers h_dueDays h_contents r_count r_nextId r_ids r_borrowers r_pitches r_tolerances r_firstDays r_lastDays b_count b_hammers b_borrowers b_firstDays b_lastDays s_day s_coins s_bookingCoins s_lateCoins s_faceCosts s_broken s_lent ++ (wC t ad oC r3.2.1 r3.2.2.1 r3.2.2.2.1 r3.2.2.2.2))) ++ ([(ad (oL), .inl (t 3, 1, .inr (.inl out)))])) 7 [(0, .ref (ad o)), (1, .int a1), (2, .ref (ad oL))] [.int r3.1, .int 0, .ref (ad oL)]
    refine hmix [wD t ad o oS oN oY oG oC oP oB d_hasSnapshot d_errorAt d_failedAt, wS t ad oS h_count h_pitches h_wears h_slots h_borrowers h_dueDays h_contents r_count r_nextId r_ids r_borrowers r_pitches r_tolerances r_firstDays r_lastDays b_count b_hammers b_borrowers b_firstDays b_lastDays s_day s_coins s_bookingCoins s_lateCoins s_faceCosts s_broken s_lent, wC t ad oC r3.2.1 r3.2.2.1 r3.2.2.2.1 r3.2.2.2.2, [(ad (oL), .inl (t 3, 1, .inr (.inl out)))]] _ _ _ _ _ rfl ?_
    change J X 1 6 (wD t ad o oS oN oY oG oC oP oB d_hasSnapshot d_errorAt d_failedAt ++ (wS t ad oS h_count h_pitches h_wears h_slots h_borrowers h_dueDays h_contents r_count r_nextId r_ids r_borrowers r_pitches r_tolerances r_firstDays r_lastDays b_count b_hammers b_borrowers b_firstDays b_lastDays s_day s_coins s_bookingCoins s_lateCoins s_faceCosts s_broken s_lent ++ (wC t ad oC r3.2.1 r3.2.2.1 r3.2.2.2.1 r3.2.2.2.2 ++ ([(ad (oL), .inl (t 3, 1, .inr (.inl out)))])))) 7 [(0, .ref (ad o)), (1, .int a1), (2, .ref (ad oL))] [.int r3.1, .int 0, .ref (ad oL)]
    refine j_i2l hX dL_bestChord_7 ?_
    refine j_last hX (wD t ad o oS oN oY oG oC oP oB d_hasSnapshot d_errorAt d_failedAt ++ (wS t ad oS h_count h_pitches h_wears h_slots h_borrowers h_dueDays h_contents r_count r_nextId r_ids r_borrowers r_pitches r_tolerances r_firstDays r_lastDays b_count b_hammers b_borrowers b_firstDays b_lastDays s_day s_coins s_bookingCoins s_lateCoins s_faceCosts s_broken s_lent ++ (wC t ad oC r3.2.1 r3.2.2.1 r3.2.2.2.1 r3.2.2.2.2 ++ ([(ad (oL), .inl (t 3, 1, .inr (.inl (vp_updL out (0 : Int32).toNatClampNeg ((r3.1).toInt64)))))])))) dL_bestChord_8 24 3 rfl rfl rfl hf (fun c8 hf => ?_)
    refine j_goto hX 18 dL_bestChord_9 (by decide) ?_
    refine j_iconst hX 0 dL_bestChord_18 (by decide) ?_
    cases hf
    exact j_iret hX hE dL_bestChord_19 (Nat.le_of_ble_eq_true rfl) (Nat.le_of_ble_eq_true rfl) ⟨rfl, rfl⟩
-- HammerDepotLaw bestChordBySets (LHammerDepot;I[J)I
def f_L_bestChordBySets (h_count : Int32) (h_pitches : Nat → Int32) (h_slots : Nat → Int32) (c_count : Int32) (c_pitches : Nat → Int32) (c_consonances : Nat → Int32) (out : Nat → Int64) (a1 : Int32) : Option (Int32 × Int32 × (Nat → Int32) × (Nat → Int32) × (Nat → Int64)) :=
  Option.bind (f_X9_bestChordBySets h_count h_pitches h_slots c_count c_pitches c_consonances a1) (fun u1 => Sum.elim (fun x4 => if x4.1 = "java/lang/IllegalArgumentException" then
    some (1, x4.2.1, x4.2.2.1, x4.2.2.2, out)
  else
    if x4.1 = "java/util/NoSuchElementException" then
      some (2, x4.2.1, x4.2.2.1, x4.2.2.2, out)
    else
      none) (fun r3 =>
    if jin 0 1 = true then
      some (0, r3.2.1, r3.2.2.1, r3.2.2.2, vp_updL out (0 : Int32).toNatClampNeg ((r3.1).toInt64))
    else none) u1)
set_option maxHeartbeats 4000000 in
set_option maxRecDepth 100000 in
theorem k_L_bestChordBySets {l : Launch} {D : va_G} {t : Nat → ClassId} {ad : Nat → Nat} {o oS oN oY oG oC oP oB oL : Nat} (hl : l.stackTraces = false) (d_hasSnapshot : Int32) (d_errorAt : Int32) (d_failedAt : Int32) (h_count : Int32) (h_pitches : Nat → Int32) (h_wears : Nat → Int32) (h_slots : Nat → Int32) (h_borrowers : Nat → Int32) (h_dueDays : Nat → Int32) (h_contents : Nat → Int32) (r_count : Int32) (r_nextId : Int32) (r_ids : Nat → Int32) (r_borrowers : Nat → Int32) (r_pitches : Nat → Int32) (r_tolerances : Nat → Int32) (r_firstDays : Nat → Int32) (r_lastDays : Nat → Int32) (b_count : Int32) (b_hammers : Nat → Int32) (b_borrowers : Nat → Int32) (b_firstDays : Nat → Int32) (b_lastDays : Nat → Int32) (s_day : Int32) (s_coins : Int32) (s_bookingCoins : Int32) (s_lateCoins : Int32) (s_faceCosts : Int32) (s_broken : Int32) (s_lent : Int32) (c_count : Int32) (c_size : Int32) (c_pitches : Nat → Int32) (c_consonances : Nat → Int32) (out : Nat → Int64) (a1 : Int32) (u : Int32 × Int32 × (Nat → Int32) × (Nat → Int32) × (Nat → Int64)) (hf : f_L_bestChordBySets h_count h_pitches h_slots c_count c_pitches c_consonances out a1 = some u) : cmh l D (jT t) yL_bestChordBySets cL_bestChordBySets 4 (some FieldType.int) [(0, 9, 12, 13), (0, 9, 15, 34)] { frames := 8, cells := 1, slots := 6, locals := 132 } [.ref (ad o), .int a1, .ref (ad oL)] (wD t ad o oS oN oY oG oC oP oB d_hasSnapshot d_errorAt d_failedAt ++ (wS t ad oS h_count h_pitches h_wears h_slots h_borrowers h_dueDays h_contents r_count r_nextId r_ids r_borrowers r_pitches r_tolerances r_firstDays r_lastDays b_count b_hammers b_borrowers b_firstDays b_lastDays s_day s_coins s_bookingCoins s_lateCoins s_faceCosts s_broken s_lent ++ (wC t ad oC c_count c_size c_pitches c_consonances ++ ([(ad (oL), .inl (t 3, 1, .inr (.inl out)))])))) (fun v w => v = (some (.int u.1)) ∧ w = wD t ad o oS oN oY oG oC oP oB d_hasSnapshot d_errorAt d_failedAt ++ (wS t ad oS h_count h_pitches h_wears h_slots h_borrowers h_dueDays h_contents r_count r_nextId r_ids r_borrowers r_pitches r_tolerances r_firstDays r_lastDays b_count b_hammers b_borrowers b_firstDays b_lastDays s_day s_coins s_bookingCoins s_lateCoins s_faceCosts s_broken s_lent ++ (wC t ad oC u.2.1 c_size u.2.2.1 u.2.2.2.1 ++ ([(ad (oL), .inl (t 3, 1, .inr (.inl u.2.2.2.2)))])))) := by
  refine cmh_of RL rfl (by decide +kernel) (Nat.le_of_ble_eq_true rfl) (fun X hX hE hTB => ?_)
  change J X 0 0 (wD t ad o oS oN oY oG oC oP oB d_hasSnapshot d_errorAt d_failedAt ++ (wS t ad oS h_count h_pitches h_wears h_slots h_borrowers h_dueDays h_contents r_count r_nextId r_ids r_borrowers r_pitches r_tolerances r_firstDays r_lastDays b_count b_hammers b_borrowers b_firstDays b_lastDays s_day s_coins s_bookingCoins s_lateCoins s_faceCosts s_broken s_lent ++ (wC t ad oC c_count c_size c_pitches c_consonances ++ ([(ad (oL), .inl (t 3, 1, .inr (.inl out)))])))) 0 [(0, .ref (ad o)), (1, .int a1), (2, .ref (ad oL))] []
  unfold f_L_bestChordBySets at hf
  refine j_aload_n hX dL_bestChordBySets_0 rfl 2 rfl ?_
  refine j_iconst hX 0 dL_bestChordBySets_1 (by decide) ?_
  refine j_aload_n hX dL_bestChordBySets_2 rfl 0 rfl ?_
  refine j_iload_n hX dL_bestChordBySets_3 rfl 1 rfl ?_
  obtain ⟨u1, h2, hf⟩ := jbind hf
  refine j_mix hX [wD t ad o oS oN oY oG oC oP oB d_hasSnapshot d_errorAt d_failedAt, wS t ad oS h_count h_pitches h_wears h_slots h_borrowers h_dueDays h_contents r_count r_nextId r_ids r_borrowers r_pitches r_tolerances r_firstDays r_lastDays b_count b_hammers b_borrowers b_firstDays b_lastDays s_day s_coins s_bookingCoins s_lateCoins s_faceCosts s_broken s_lent, wC t ad oC c_count c_size c_pitches c_consonances, [(ad (oL), .inl (t 3, 1, .inr (.inl out)))]] [0, 1, 2] [3] 4 rfl (by decide) rfl (fun hmix => ?_)
  refine j_callVXC (a := 0) (b := 0) (st := [.int 0, .ref (ad oL)]) hX hTB (k_X9_bestChordBySets (l := l) (D := D) (t := t) (ad := ad) (o := o) (oS := oS) (oN := oN) (oY := oY) (oG := oG) (oC := oC) (oP := oP) (oB := oB) hl d_hasSnapshot d_errorAt d_failedAt h_count h_pitches h_wears h_slots h_borrowers h_dueDays h_contents r_count r_nextId r_ids r_borrowers r_pitches r_tolerances r_firstDays r_lastDays b_count b_hammers b_borrowers b_firstDays b_lastDays s_day s_coins s_bookingCoins s_lateCoins s_faceCosts s_broken s_lent c_count c_size c_pitches c_consonances a1 u1 h2) q976 q977 q978 q1 q979 (n9 := 1) rfl ⟨by decide +kernel, by decide +kernel⟩ 0 rfl rfl rfl dL_bestChordBySets_4 (Nat.le_of_ble_eq_true rfl) ⟨by decide, by decide⟩ (fun w : va_W => w ++ ([(ad (oL), .inl (t 3, 1, .inr (.inl out)))])) (jFr_r _) rfl rfl (fun E w hxw => ?_) (fun v w hvw => ?_)
  · obtain ⟨x4, rfl, rfl, rfl⟩ := hxw
    have hf := jsum_l hf
    by_cases g4_0 : x4.1 = "java/lang/IllegalArgumentException"
    · have hf := jifp hf g4_0
      refine ⟨wD t ad o oS oN oY oG oC oP oB d_hasSnapshot d_errorAt d_failedAt ++ (wS t ad oS h_count h_pitches h_wears h_slots h_borrowers h_dueDays h_contents r_count r_nextId r_ids r_borrowers r_pitches r_tolerances r_firstDays r_lastDays b_count b_hammers b_borrowers b_firstDays b_lastDays s_day s_coins s_bookingCoins s_lateCoins s_faceCosts s_broken s_lent ++ (wC t ad oC x4.2.1 c_size x4.2.2.1 x4.2.2.2 ++ ([(ad (oL), .inl (t 3, 1, .inr (.inl out)))]))), 12, (jmix_perm (bs := [wD t ad o oS oN oY oG oC oP oB d_hasSnapshot d_errorAt d_failedAt, wS t ad oS h_count h_pitches h_wears h_slots h_borrowers h_dueDays h_contents r_count r_nextId r_ids r_borrowers r_pitches r_tolerances r_firstDays r_lastDays b_count b_hammers b_borrowers b_firstDays b_lastDays s_day s_coins s_bookingCoins s_lateCoins s_faceCosts s_broken s_lent, wC t ad oC x4.2.1 c_size x4.2.2.1 x4.2.2.2, [(ad (oL), .inl (t 3, 1, .inr (.inl out)))]]) (is := [0, 1, 2]) (js := [3]) 4 rfl (by decide)).symm, ?_, fun q => ?_⟩
      · rw [g4_0]
        exact ⟨[], { startPc := 0, endPc := 9, handlerPc := 12, catchType := 13 }, [{ startPc := 0, endPc := 9, handlerPc := 15, catchType := 34 }], "java/lang/IllegalArgumentException", rfl, fun _ h => absurd h List.not_mem_nil, by decide, by decide, q598, q343, rfl⟩
      · change J X 1 6 (wD t ad o oS oN oY oG oC oP oB d_hasSnapshot d_errorAt d_failedAt ++ (wS t ad oS h_count h_pitches h_wears h_slots h_borrowers h_dueDays h_contents r_count r_nextId r_ids r_borrowers r_pitches r_tolerances r_firstDays r_lastDays b_count b_hammers b_borrowers b_firstDays b_lastDays s_day s_coins s_bookingCoins s_lateCoins s_faceCosts s_broken s_lent ++ (wC t ad oC x4.2.1 c_size x4.2.2.1 x4.2.2.2 ++ ([(ad (oL), .inl (t 3, 1, .inr (.inl out)))])))) 12 [(0, .ref (ad o)), (1, .int a1), (2, .ref (ad oL))] [.ref q]
        refine j_astore_n hX [(3, .ref q), (0, .ref (ad o)), (1, .int a1), (2, .ref (ad oL))] dL_bestChordBySets_12 rfl (by decide) rfl ?_
        refine j_iconst hX 1 dL_bestChordBySets_13 (by decide) ?_
        cases hf
        exact j_iret hX hE dL_bestChordBySets_14 (Nat.le_of_ble_eq_true rfl) (Nat.le_of_ble_eq_true rfl) ⟨rfl, rfl⟩
    have hf := jifn hf g4_0
    by_cases g4_1 : x4.1 = "java/util/NoSuchElementException"
    · have hf := jifp hf g4_1
      refine ⟨wD t ad o oS oN oY oG oC oP oB d_hasSnapshot d_errorAt d_failedAt ++ (wS t ad oS h_count h_pitches h_wears h_slots h_borrowers h_dueDays h_contents r_count r_nextId r_ids r_borrowers r_pitches r_tolerances r_firstDays r_lastDays b_count b_hammers b_borrowers b_firstDays b_lastDays s_day s_coins s_bookingCoins s_lateCoins s_faceCosts s_broken s_lent ++ (wC t ad oC x4.2.1 c_size x4.2.2.1 x4.2.2.2 ++ ([(ad (oL), .inl (t 3, 1, .inr (.inl out)))]))), 15, (jmix_perm (bs := [wD t ad o oS oN oY oG oC oP oB d_hasSnapshot d_errorAt d_failedAt, wS t ad oS h_count h_pitches h_wears h_slots h_borrowers h_dueDays h_contents r_count r_nextId r_ids r_borrowers r_pitches r_tolerances r_firstDays r_lastDays b_count b_hammers b_borrowers b_firstDays b_lastDays s_day s_coins s_bookingCoins s_lateCoins s_faceCosts s_broken s_lent, wC t ad oC x4.2.1 c_size x4.2.2.1 x4.2.2.2, [(ad (oL), .inl (t 3, 1, .inr (.inl out)))]]) (is := [0, 1, 2]) (js := [3]) 4 rfl (by decide)).symm, ?_, fun q => ?_⟩
      · rw [g4_1]
        exact ⟨[{ startPc := 0, endPc := 9, handlerPc := 12, catchType := 13 }], { startPc := 0, endPc := 9, handlerPc := 15, catchType := 34 }, [], "java/util/NoSuchElementException", rfl, List.forall_mem_cons.mpr ⟨⟨by decide, "java/lang/IllegalArgumentException", q598, List.mem_of_getElem? (i := 26) rfl⟩, fun _ h => absurd h List.not_mem_nil⟩, by decide, by decide, q691, q406, rfl⟩
      · change J X 1 6 (wD t ad o oS oN oY oG oC oP oB d_hasSnapshot d_errorAt d_failedAt ++ (wS t ad oS h_count h_pitches h_wears h_slots h_borrowers h_dueDays h_contents r_count r_nextId r_ids r_borrowers r_pitches r_tolerances r_firstDays r_lastDays b_count b_hammers b_borrowers b_firstDays b_lastDays s_day s_coins s_bookingCoins s_lateCoins s_faceCosts s_broken s_lent ++ (wC t ad oC x4.2.1 c_size x4.2.2.1 x4.2.2.2 ++ ([(ad (oL), .inl (t 3, 1, .inr (.inl out)))])))) 15 [(0, .ref (ad o)), (1, .int a1), (2, .ref (ad oL))] [.ref q]
        refine j_astore_n hX [(3, .ref q), (0, .ref (ad o)), (1, .int a1), (2, .ref (ad oL))] dL_bestChordBySets_15 rfl (by decide) rfl ?_
        refine j_iconst hX 2 dL_bestChordBySets_16 (by decide) ?_
        cases hf
        exact j_iret hX hE dL_bestChordBySets_17 (Nat.le_of_ble_eq_true rfl) (Nat.le_of_ble_eq_true rfl) ⟨rfl, rfl⟩
    have hf := jifn hf g4_1
    cases hf
  · obtain ⟨r3, rfl, rfl, rfl⟩ := hvw
    have hf := jsum_r hf
    change J X 1 6 ((wD t ad o oS oN oY oG oC oP oB d_hasSnapshot d_errorAt d_failedAt ++ (wS t ad oS h_count h_pitches h_wears h_slots h_borrowers h_dueDays h_contents r_count r_nextId r_ids r_borrowers r_pitches r_tolerances r_firstDays r_lastDays b_count b_hammers b_borrowers b_firstDays b_lastDays s_day s_coins s_bookingCoins s_lateCoins s_faceCosts s_broken s_lent ++ (wC t ad oC r3.2.1 c_size r3.2.2.1 r3.2.2.2))) ++ ([(ad (oL), .inl (t 3, 1, .inr (.inl out)))])) 7 [(0, .ref (ad o)), (1, .int a1), (2, .ref (ad oL))] [.int r3.1, .int 0, .ref (ad oL)]
    refine hmix [wD t ad o oS oN oY oG oC oP oB d_hasSnapshot d_errorAt d_failedAt, wS t ad oS h_count h_pitches h_wears h_slots h_borrowers h_dueDays h_contents r_count r_nextId r_ids r_borrowers r_pitches r_tolerances r_firstDays r_lastDays b_count b_hammers b_borrowers b_firstDays b_lastDays s_day s_coins s_bookingCoins s_lateCoins s_faceCosts s_broken s_lent, wC t ad oC r3.2.1 c_size r3.2.2.1 r3.2.2.2, [(ad (oL), .inl (t 3, 1, .inr (.inl out)))]] _ _ _ _ _ rfl ?_
    change J X 1 6 (wD t ad o oS oN oY oG oC oP oB d_hasSnapshot d_errorAt d_failedAt ++ (wS t ad oS h_count h_pitches h_wears h_slots h_borrowers h_dueDays h_contents r_count r_nextId r_ids r_borrowers r_pitches r_tolerances r_firstDays r_lastDays b_count b_hammers b_borrowers b_firstDays b_lastDays s_day s_coins s_bookingCoins s_lateCoins s_faceCosts s_broken s_lent ++ (wC t ad oC r3.2.1 c_size r3.2.2.1 r3.2.2.2 ++ ([(ad (oL), .inl (t 3, 1, .inr (.inl out)))])))) 7 [(0, .ref (ad o)), (1, .int a1), (2, .ref (ad oL))] [.int r3.1, .int 0, .ref (ad oL)]
    refine j_i2l hX dL_bestChordBySets_7 ?_
    refine j_last hX (wD t ad o oS oN oY oG oC oP oB d_hasSnapshot d_errorAt d_failedAt ++ (wS t ad oS h_count h_pitches h_wears h_slots h_borrowers h_dueDays h_contents r_count r_nextId r_ids r_borrowers r_pitches r_tolerances r_firstDays r_lastDays b_count b_hammers b_borrowers b_firstDays b_lastDays s_day s_coins s_bookingCoins s_lateCoins s_faceCosts s_broken s_lent ++ (wC t ad oC r3.2.1 c_size r3.2.2.1 r3.2.2.2 ++ ([(ad (oL), .inl (t 3, 1, .inr (.inl (vp_updL out (0 : Int32).toNatClampNeg ((r3.1).toInt64)))))])))) dL_bestChordBySets_8 24 3 rfl rfl rfl hf (fun c8 hf => ?_)
    refine j_goto hX 18 dL_bestChordBySets_9 (by decide) ?_
    refine j_iconst hX 0 dL_bestChordBySets_18 (by decide) ?_
    cases hf
    exact j_iret hX hE dL_bestChordBySets_19 (Nat.le_of_ble_eq_true rfl) (Nat.le_of_ble_eq_true rfl) ⟨rfl, rfl⟩
-- HammerDepotLaw swapsToSort (LHammerDepot;I[J)I
def f_L_swapsToSort (h_count : Int32) (h_pitches : Nat → Int32) (h_contents : Nat → Int32) (out : Nat → Int64) (a1 : Int32) : Option (Int32 × (Nat → Int64)) :=
  Option.bind (f_X9_swapsToSort h_count h_pitches h_contents a1) (fun u1 => Sum.elim (fun x4 => if x4 = "java/lang/IndexOutOfBoundsException" then
    some (1, out)
  else
    none) (fun r3 =>
    if jin 0 1 = true then
      some (0, vp_updL out (0 : Int32).toNatClampNeg ((r3).toInt64))
    else none) u1)
set_option maxHeartbeats 4000000 in
set_option maxRecDepth 100000 in
theorem k_L_swapsToSort {l : Launch} {D : va_G} {t : Nat → ClassId} {ad : Nat → Nat} {o oS oN oY oG oC oP oB oL : Nat} (hl : l.stackTraces = false) (d_hasSnapshot : Int32) (d_errorAt : Int32) (d_failedAt : Int32) (h_count : Int32) (h_pitches : Nat → Int32) (h_wears : Nat → Int32) (h_slots : Nat → Int32) (h_borrowers : Nat → Int32) (h_dueDays : Nat → Int32) (h_contents : Nat → Int32) (r_count : Int32) (r_nextId : Int32) (r_ids : Nat → Int32) (r_borrowers : Nat → Int32) (r_pitches : Nat → Int32) (r_tolerances : Nat → Int32) (r_firstDays : Nat → Int32) (r_lastDays : Nat → Int32) (b_count : Int32) (b_hammers : Nat → Int32) (b_borrowers : Nat → Int32) (b_firstDays : Nat → Int32) (b_lastDays : Nat → Int32) (s_day : Int32) (s_coins : Int32) (s_bookingCoins : Int32) (s_lateCoins : Int32) (s_faceCosts : Int32) (s_broken : Int32) (s_lent : Int32) (out : Nat → Int64) (a1 : Int32) (u : Int32 × (Nat → Int64)) (hf : f_L_swapsToSort h_count h_pitches h_contents out a1 = some u) : cmh l D (jT t) yL_swapsToSort cL_swapsToSort 4 (some FieldType.int) [(0, 9, 12, 15)] { frames := 21, cells := 1, slots := 6, locals := 511 } [.ref (ad o), .int a1, .ref (ad oL)] (wD t ad o oS oN oY oG oC oP oB d_hasSnapshot d_errorAt d_failedAt ++ (wS t ad oS h_count h_pitches h_wears h_slots h_borrowers h_dueDays h_contents r_count r_nextId r_ids r_borrowers r_pitches r_tolerances r_firstDays r_lastDays b_count b_hammers b_borrowers b_firstDays b_lastDays s_day s_coins s_bookingCoins s_lateCoins s_faceCosts s_broken s_lent ++ ([(ad (oL), .inl (t 3, 1, .inr (.inl out)))]))) (fun v w => v = (some (.int u.1)) ∧ w = wD t ad o oS oN oY oG oC oP oB d_hasSnapshot d_errorAt d_failedAt ++ (wS t ad oS h_count h_pitches h_wears h_slots h_borrowers h_dueDays h_contents r_count r_nextId r_ids r_borrowers r_pitches r_tolerances r_firstDays r_lastDays b_count b_hammers b_borrowers b_firstDays b_lastDays s_day s_coins s_bookingCoins s_lateCoins s_faceCosts s_broken s_lent ++ ([(ad (oL), .inl (t 3, 1, .inr (.inl u.2)))]))) := by
  refine cmh_of RL rfl (by decide +kernel) (Nat.le_of_ble_eq_true rfl) (fun X hX hE hTB => ?_)
  change J X 0 0 (wD t ad o oS oN oY oG oC oP oB d_hasSnapshot d_errorAt d_failedAt ++ (wS t ad oS h_count h_pitches h_wears h_slots h_borrowers h_dueDays h_contents r_count r_nextId r_ids r_borrowers r_pitches r_tolerances r_firstDays r_lastDays b_count b_hammers b_borrowers b_firstDays b_lastDays s_day s_coins s_bookingCoins s_lateCoins s_faceCosts s_broken s_lent ++ ([(ad (oL), .inl (t 3, 1, .inr (.inl out)))]))) 0 [(0, .ref (ad o)), (1, .int a1), (2, .ref (ad oL))] []
  unfold f_L_swapsToSort at hf
  refine j_aload_n hX dL_swapsToSort_0 rfl 2 rfl ?_
  refine j_iconst hX 0 dL_swapsToSort_1 (by decide) ?_
  refine j_aload_n hX dL_swapsToSort_2 rfl 0 rfl ?_
  refine j_iload_n hX dL_swapsToSort_3 rfl 1 rfl ?_
  obtain ⟨u1, h2, hf⟩ := jbind hf
  refine j_mix hX [wD t ad o oS oN oY oG oC oP oB d_hasSnapshot d_errorAt d_failedAt, wS t ad oS h_count h_pitches h_wears h_slots h_borrowers h_dueDays h_contents r_count r_nextId r_ids r_borrowers r_pitches r_tolerances r_firstDays r_lastDays b_count b_hammers b_borrowers b_firstDays b_lastDays s_day s_coins s_bookingCoins s_lateCoins s_faceCosts s_broken s_lent, [(ad (oL), .inl (t 3, 1, .inr (.inl out)))]] [0, 1] [2] 3 rfl (by decide) rfl (fun hmix => ?_)
  refine j_callVXC (a := 0) (b := 0) (st := [.int 0, .ref (ad oL)]) hX hTB (k_X9_swapsToSort (l := l) (D := D) (t := t) (ad := ad) (o := o) (oS := oS) (oN := oN) (oY := oY) (oG := oG) (oC := oC) (oP := oP) (oB := oB) hl d_hasSnapshot d_errorAt d_failedAt h_count h_pitches h_wears h_slots h_borrowers h_dueDays h_contents r_count r_nextId r_ids r_borrowers r_pitches r_tolerances r_firstDays r_lastDays b_count b_hammers b_borrowers b_firstDays b_lastDays s_day s_coins s_bookingCoins s_lateCoins s_faceCosts s_broken s_lent a1 u1 h2) q983 q984 q985 q1 q986 (n9 := 1) rfl ⟨by decide +kernel, by decide +kernel⟩ 0 rfl rfl rfl dL_swapsToSort_4 (Nat.le_of_ble_eq_true rfl) ⟨by decide, by decide⟩ (fun w : va_W => w ++ ([(ad (oL), .inl (t 3, 1, .inr (.inl out)))])) (jFr_r _) rfl rfl (fun E w hxw => ?_) (fun v w hvw => ?_)
  · obtain ⟨x4, rfl, hE4, rfl⟩ := hxw
    have hE4 := hE4.symm
    subst hE4
    have hf := jsum_l hf
    by_cases g4_0 : x4 = "java/lang/IndexOutOfBoundsException"
    · have hf := jifp hf g4_0
      refine ⟨wD t ad o oS oN oY oG oC oP oB d_hasSnapshot d_errorAt d_failedAt ++ (wS t ad oS h_count h_pitches h_wears h_slots h_borrowers h_dueDays h_contents r_count r_nextId r_ids r_borrowers r_pitches r_tolerances r_firstDays r_lastDays b_count b_hammers b_borrowers b_firstDays b_lastDays s_day s_coins s_bookingCoins s_lateCoins s_faceCosts s_broken s_lent ++ ([(ad (oL), .inl (t 3, 1, .inr (.inl out)))])), 12, (jmix_perm (bs := [wD t ad o oS oN oY oG oC oP oB d_hasSnapshot d_errorAt d_failedAt, wS t ad oS h_count h_pitches h_wears h_slots h_borrowers h_dueDays h_contents r_count r_nextId r_ids r_borrowers r_pitches r_tolerances r_firstDays r_lastDays b_count b_hammers b_borrowers b_firstDays b_lastDays s_day s_coins s_bookingCoins s_lateCoins s_faceCosts s_broken s_lent, [(ad (oL), .inl (t 3, 1, .inr (.inl out)))]]) (is := [0, 1]) (js := [2]) 3 rfl (by decide)).symm, ?_, fun q => ?_⟩
      · rw [g4_0]
        exact ⟨[], { startPc := 0, endPc := 9, handlerPc := 12, catchType := 15 }, [], "java/lang/IndexOutOfBoundsException", rfl, fun _ h => absurd h List.not_mem_nil, by decide, by decide, q599, q390, rfl⟩
      · change J X 1 6 (wD t ad o oS oN oY oG oC oP oB d_hasSnapshot d_errorAt d_failedAt ++ (wS t ad oS h_count h_pitches h_wears h_slots h_borrowers h_dueDays h_contents r_count r_nextId r_ids r_borrowers r_pitches r_tolerances r_firstDays r_lastDays b_count b_hammers b_borrowers b_firstDays b_lastDays s_day s_coins s_bookingCoins s_lateCoins s_faceCosts s_broken s_lent ++ ([(ad (oL), .inl (t 3, 1, .inr (.inl out)))]))) 12 [(0, .ref (ad o)), (1, .int a1), (2, .ref (ad oL))] [.ref q]
        refine j_astore_n hX [(3, .ref q), (0, .ref (ad o)), (1, .int a1), (2, .ref (ad oL))] dL_swapsToSort_12 rfl (by decide) rfl ?_
        refine j_iconst hX 1 dL_swapsToSort_13 (by decide) ?_
        cases hf
        exact j_iret hX hE dL_swapsToSort_14 (Nat.le_of_ble_eq_true rfl) (Nat.le_of_ble_eq_true rfl) ⟨rfl, rfl⟩
    have hf := jifn hf g4_0
    cases hf
  · obtain ⟨r3, rfl, rfl, rfl⟩ := hvw
    have hf := jsum_r hf
    change J X 1 6 ((wD t ad o oS oN oY oG oC oP oB d_hasSnapshot d_errorAt d_failedAt ++ (wS t ad oS h_count h_pitches h_wears h_slots h_borrowers h_dueDays h_contents r_count r_nextId r_ids r_borrowers r_pitches r_tolerances r_firstDays r_lastDays b_count b_hammers b_borrowers b_firstDays b_lastDays s_day s_coins s_bookingCoins s_lateCoins s_faceCosts s_broken s_lent)) ++ ([(ad (oL), .inl (t 3, 1, .inr (.inl out)))])) 7 [(0, .ref (ad o)), (1, .int a1), (2, .ref (ad oL))] [.int r3, .int 0, .ref (ad oL)]
    refine hmix [wD t ad o oS oN oY oG oC oP oB d_hasSnapshot d_errorAt d_failedAt, wS t ad oS h_count h_pitches h_wears h_slots h_borrowers h_dueDays h_contents r_count r_nextId r_ids r_borrowers r_pitches r_tolerances r_firstDays r_lastDays b_count b_hammers b_borrowers b_firstDays b_lastDays s_day s_coins s_bookingCoins s_lateCoins s_faceCosts s_broken s_lent, [(ad (oL), .inl (t 3, 1, .inr (.inl out)))]] _ _ _ _ _ rfl ?_
    change J X 1 6 (wD t ad o oS oN oY oG oC oP oB d_hasSnapshot d_errorAt d_failedAt ++ (wS t ad oS h_count h_pitches h_wears h_slots h_borrowers h_dueDays h_contents r_count r_nextId r_ids r_borrowers r_pitches r_tolerances r_firstDays r_lastDays b_count b_hammers b_borrowers b_firstDays b_lastDays s_day s_coins s_bookingCoins s_lateCoins s_faceCosts s_broken s_lent ++ ([(ad (oL), .inl (t 3, 1, .inr (.inl out)))]))) 7 [(0, .ref (ad o)), (1, .int a1), (2, .ref (ad oL))] [.int r3, .int 0, .ref (ad oL)]
    refine j_i2l hX dL_swapsToSort_7 ?_
    refine j_last hX (wD t ad o oS oN oY oG oC oP oB d_hasSnapshot d_errorAt d_failedAt ++ (wS t ad oS h_count h_pitches h_wears h_slots h_borrowers h_dueDays h_contents r_count r_nextId r_ids r_borrowers r_pitches r_tolerances r_firstDays r_lastDays b_count b_hammers b_borrowers b_firstDays b_lastDays s_day s_coins s_bookingCoins s_lateCoins s_faceCosts s_broken s_lent ++ ([(ad (oL), .inl (t 3, 1, .inr (.inl (vp_updL out (0 : Int32).toNatClampNeg ((r3).toInt64)))))]))) dL_swapsToSort_8 21 3 rfl rfl rfl hf (fun c8 hf => ?_)
    refine j_goto hX 15 dL_swapsToSort_9 (by decide) ?_
    refine j_iconst hX 0 dL_swapsToSort_15 (by decide) ?_
    cases hf
    exact j_iret hX hE dL_swapsToSort_16 (Nat.le_of_ble_eq_true rfl) (Nat.le_of_ble_eq_true rfl) ⟨rfl, rfl⟩
-- HammerDepotLaw swapsToSortByCycles (LHammerDepot;I[J)I
def f_L_swapsToSortByCycles (h_count : Int32) (h_pitches : Nat → Int32) (h_contents : Nat → Int32) (out : Nat → Int64) (a1 : Int32) : Option (Int32 × (Nat → Int64)) :=
  Option.bind (f_X9_swapsToSortByCycles h_count h_pitches h_contents a1) (fun u1 => Sum.elim (fun x4 => if x4 = "java/lang/IndexOutOfBoundsException" then
    some (1, out)
  else
    none) (fun r3 =>
    if jin 0 1 = true then
      some (0, vp_updL out (0 : Int32).toNatClampNeg ((r3).toInt64))
    else none) u1)
set_option maxHeartbeats 4000000 in
set_option maxRecDepth 100000 in
theorem k_L_swapsToSortByCycles {l : Launch} {D : va_G} {t : Nat → ClassId} {ad : Nat → Nat} {o oS oN oY oG oC oP oB oL : Nat} (hl : l.stackTraces = false) (d_hasSnapshot : Int32) (d_errorAt : Int32) (d_failedAt : Int32) (h_count : Int32) (h_pitches : Nat → Int32) (h_wears : Nat → Int32) (h_slots : Nat → Int32) (h_borrowers : Nat → Int32) (h_dueDays : Nat → Int32) (h_contents : Nat → Int32) (r_count : Int32) (r_nextId : Int32) (r_ids : Nat → Int32) (r_borrowers : Nat → Int32) (r_pitches : Nat → Int32) (r_tolerances : Nat → Int32) (r_firstDays : Nat → Int32) (r_lastDays : Nat → Int32) (b_count : Int32) (b_hammers : Nat → Int32) (b_borrowers : Nat → Int32) (b_firstDays : Nat → Int32) (b_lastDays : Nat → Int32) (s_day : Int32) (s_coins : Int32) (s_bookingCoins : Int32) (s_lateCoins : Int32) (s_faceCosts : Int32) (s_broken : Int32) (s_lent : Int32) (out : Nat → Int64) (a1 : Int32) (u : Int32 × (Nat → Int64)) (hf : f_L_swapsToSortByCycles h_count h_pitches h_contents out a1 = some u) : cmh l D (jT t) yL_swapsToSortByCycles cL_swapsToSortByCycles 4 (some FieldType.int) [(0, 9, 12, 15)] { frames := 8, cells := 1, slots := 6, locals := 132 } [.ref (ad o), .int a1, .ref (ad oL)] (wD t ad o oS oN oY oG oC oP oB d_hasSnapshot d_errorAt d_failedAt ++ (wS t ad oS h_count h_pitches h_wears h_slots h_borrowers h_dueDays h_contents r_count r_nextId r_ids r_borrowers r_pitches r_tolerances r_firstDays r_lastDays b_count b_hammers b_borrowers b_firstDays b_lastDays s_day s_coins s_bookingCoins s_lateCoins s_faceCosts s_broken s_lent ++ ([(ad (oL), .inl (t 3, 1, .inr (.inl out)))]))) (fun v w => v = (some (.int u.1)) ∧ w = wD t ad o oS oN oY oG oC oP oB d_hasSnapshot d_errorAt d_failedAt ++ (wS t ad oS h_count h_pitches h_wears h_slots h_borrowers h_dueDays h_contents r_count r_nextId r_ids r_borrowers r_pitches r_tolerances r_firstDays r_lastDays b_count b_hammers b_borrowers b_firstDays b_lastDays s_day s_coins s_bookingCoins s_lateCoins s_faceCosts s_broken s_lent ++ ([(ad (oL), .inl (t 3, 1, .inr (.inl u.2)))]))) := by
  refine cmh_of RL rfl (by decide +kernel) (Nat.le_of_ble_eq_true rfl) (fun X hX hE hTB => ?_)
  change J X 0 0 (wD t ad o oS oN oY oG oC oP oB d_hasSnapshot d_errorAt d_failedAt ++ (wS t ad oS h_count h_pitches h_wears h_slots h_borrowers h_dueDays h_contents r_count r_nextId r_ids r_borrowers r_pitches r_tolerances r_firstDays r_lastDays b_count b_hammers b_borrowers b_firstDays b_lastDays s_day s_coins s_bookingCoins s_lateCoins s_faceCosts s_broken s_lent ++ ([(ad (oL), .inl (t 3, 1, .inr (.inl out)))]))) 0 [(0, .ref (ad o)), (1, .int a1), (2, .ref (ad oL))] []
  unfold f_L_swapsToSortByCycles at hf
  refine j_aload_n hX dL_swapsToSortByCycles_0 rfl 2 rfl ?_
  refine j_iconst hX 0 dL_swapsToSortByCycles_1 (by decide) ?_
  refine j_aload_n hX dL_swapsToSortByCycles_2 rfl 0 rfl ?_
  refine j_iload_n hX dL_swapsToSortByCycles_3 rfl 1 rfl ?_
  obtain ⟨u1, h2, hf⟩ := jbind hf
  refine j_mix hX [wD t ad o oS oN oY oG oC oP oB d_hasSnapshot d_errorAt d_failedAt, wS t ad oS h_count h_pitches h_wears h_slots h_borrowers h_dueDays h_contents r_count r_nextId r_ids r_borrowers r_pitches r_tolerances r_firstDays r_lastDays b_count b_hammers b_borrowers b_firstDays b_lastDays s_day s_coins s_bookingCoins s_lateCoins s_faceCosts s_broken s_lent, [(ad (oL), .inl (t 3, 1, .inr (.inl out)))]] [0, 1] [2] 3 rfl (by decide) rfl (fun hmix => ?_)
  refine j_callVXC (a := 0) (b := 0) (st := [.int 0, .ref (ad oL)]) hX hTB (k_X9_swapsToSortByCycles (l := l) (D := D) (t := t) (ad := ad) (o := o) (oS := oS) (oN := oN) (oY := oY) (oG := oG) (oC := oC) (oP := oP) (oB := oB) hl d_hasSnapshot d_errorAt d_failedAt h_count h_pitches h_wears h_slots h_borrowers h_dueDays h_contents r_count r_nextId r_ids r_borrowers r_pitches r_tolerances r_firstDays r_lastDays b_count b_hammers b_borrowers b_firstDays b_lastDays s_day s_coins s_bookingCoins s_lateCoins s_faceCosts s_broken s_lent a1 u1 h2) q990 q991 q992 q1 q993 (n9 := 1) rfl ⟨by decide +kernel, by decide +kernel⟩ 0 rfl rfl rfl dL_swapsToSortByCycles_4 (Nat.le_of_ble_eq_true rfl) ⟨by decide, by decide⟩ (fun w : va_W => w ++ ([(ad (oL), .inl (t 3, 1, .inr (.inl out)))])) (jFr_r _) rfl rfl (fun E w hxw => ?_) (fun v w hvw => ?_)
  · obtain ⟨x4, rfl, hE4, rfl⟩ := hxw
    have hE4 := hE4.symm
    subst hE4
    have hf := jsum_l hf
    by_cases g4_0 : x4 = "java/lang/IndexOutOfBoundsException"
    · have hf := jifp hf g4_0
      refine ⟨wD t ad o oS oN oY oG oC oP oB d_hasSnapshot d_errorAt d_failedAt ++ (wS t ad oS h_count h_pitches h_wears h_slots h_borrowers h_dueDays h_contents r_count r_nextId r_ids r_borrowers r_pitches r_tolerances r_firstDays r_lastDays b_count b_hammers b_borrowers b_firstDays b_lastDays s_day s_coins s_bookingCoins s_lateCoins s_faceCosts s_broken s_lent ++ ([(ad (oL), .inl (t 3, 1, .inr (.inl out)))])), 12, (jmix_perm (bs := [wD t ad o oS oN oY oG oC oP oB d_hasSnapshot d_errorAt d_failedAt, wS t ad oS h_count h_pitches h_wears h_slots h_borrowers h_dueDays h_contents r_count r_nextId r_ids r_borrowers r_pitches r_tolerances r_firstDays r_lastDays b_count b_hammers b_borrowers b_firstDays b_lastDays s_day s_coins s_bookingCoins s_lateCoins s_faceCosts s_broken s_lent, [(ad (oL), .inl (t 3, 1, .inr (.inl out)))]]) (is := [0, 1]) (js := [2]) 3 rfl (by decide)).symm, ?_, fun q => ?_⟩
      · rw [g4_0]
        exact ⟨[], { startPc := 0, endPc := 9, handlerPc := 12, catchType := 15 }, [], "java/lang/IndexOutOfBoundsException", rfl, fun _ h => absurd h List.not_mem_nil, by decide, by decide, q599, q390, rfl⟩
      · change J X 1 6 (wD t ad o oS oN oY oG oC oP oB d_hasSnapshot d_errorAt d_failedAt ++ (wS t ad oS h_count h_pitches h_wears h_slots h_borrowers h_dueDays h_contents r_count r_nextId r_ids r_borrowers r_pitches r_tolerances r_firstDays r_lastDays b_count b_hammers b_borrowers b_firstDays b_lastDays s_day s_coins s_bookingCoins s_lateCoins s_faceCosts s_broken s_lent ++ ([(ad (oL), .inl (t 3, 1, .inr (.inl out)))]))) 12 [(0, .ref (ad o)), (1, .int a1), (2, .ref (ad oL))] [.ref q]
        refine j_astore_n hX [(3, .ref q), (0, .ref (ad o)), (1, .int a1), (2, .ref (ad oL))] dL_swapsToSortByCycles_12 rfl (by decide) rfl ?_
        refine j_iconst hX 1 dL_swapsToSortByCycles_13 (by decide) ?_
        cases hf
        exact j_iret hX hE dL_swapsToSortByCycles_14 (Nat.le_of_ble_eq_true rfl) (Nat.le_of_ble_eq_true rfl) ⟨rfl, rfl⟩
    have hf := jifn hf g4_0
    cases hf
  · obtain ⟨r3, rfl, rfl, rfl⟩ := hvw
    have hf := jsum_r hf
    change J X 1 6 ((wD t ad o oS oN oY oG oC oP oB d_hasSnapshot d_errorAt d_failedAt ++ (wS t ad oS h_count h_pitches h_wears h_slots h_borrowers h_dueDays h_contents r_count r_nextId r_ids r_borrowers r_pitches r_tolerances r_firstDays r_lastDays b_count b_hammers b_borrowers b_firstDays b_lastDays s_day s_coins s_bookingCoins s_lateCoins s_faceCosts s_broken s_lent)) ++ ([(ad (oL), .inl (t 3, 1, .inr (.inl out)))])) 7 [(0, .ref (ad o)), (1, .int a1), (2, .ref (ad oL))] [.int r3, .int 0, .ref (ad oL)]
    refine hmix [wD t ad o oS oN oY oG oC oP oB d_hasSnapshot d_errorAt d_failedAt, wS t ad oS h_count h_pitches h_wears h_slots h_borrowers h_dueDays h_contents r_count r_nextId r_ids r_borrowers r_pitches r_tolerances r_firstDays r_lastDays b_count b_hammers b_borrowers b_firstDays b_lastDays s_day s_coins s_bookingCoins s_lateCoins s_faceCosts s_broken s_lent, [(ad (oL), .inl (t 3, 1, .inr (.inl out)))]] _ _ _ _ _ rfl ?_
    change J X 1 6 (wD t ad o oS oN oY oG oC oP oB d_hasSnapshot d_errorAt d_failedAt ++ (wS t ad oS h_count h_pitches h_wears h_slots h_borrowers h_dueDays h_contents r_count r_nextId r_ids r_borrowers r_pitches r_tolerances r_firstDays r_lastDays b_count b_hammers b_borrowers b_firstDays b_lastDays s_day s_coins s_bookingCoins s_lateCoins s_faceCosts s_broken s_lent ++ ([(ad (oL), .inl (t 3, 1, .inr (.inl out)))]))) 7 [(0, .ref (ad o)), (1, .int a1), (2, .ref (ad oL))] [.int r3, .int 0, .ref (ad oL)]
    refine j_i2l hX dL_swapsToSortByCycles_7 ?_
    refine j_last hX (wD t ad o oS oN oY oG oC oP oB d_hasSnapshot d_errorAt d_failedAt ++ (wS t ad oS h_count h_pitches h_wears h_slots h_borrowers h_dueDays h_contents r_count r_nextId r_ids r_borrowers r_pitches r_tolerances r_firstDays r_lastDays b_count b_hammers b_borrowers b_firstDays b_lastDays s_day s_coins s_bookingCoins s_lateCoins s_faceCosts s_broken s_lent ++ ([(ad (oL), .inl (t 3, 1, .inr (.inl (vp_updL out (0 : Int32).toNatClampNeg ((r3).toInt64)))))]))) dL_swapsToSortByCycles_8 21 3 rfl rfl rfl hf (fun c8 hf => ?_)
    refine j_goto hX 15 dL_swapsToSortByCycles_9 (by decide) ?_
    refine j_iconst hX 0 dL_swapsToSortByCycles_15 (by decide) ?_
    cases hf
    exact j_iret hX hE dL_swapsToSortByCycles_16 (Nat.le_of_ble_eq_true rfl) (Nat.le_of_ble_eq_true rfl) ⟨rfl, rfl⟩
-- HammerDepotLaw hammerByWear (LHammerDepot;I[J)I
def f_L_hammerByWear (h_count : Int32) (h_pitches : Nat → Int32) (h_wears : Nat → Int32) (out : Nat → Int64) (a1 : Int32) : Option (Int32 × (Nat → Int64)) :=
  Option.bind (f_X9_hammerByWear h_count h_pitches h_wears a1) (fun u1 => Sum.elim (fun x4 => if x4 = "java/util/NoSuchElementException" then
    some (1, out)
  else
    none) (fun r3 =>
    if jin 0 1 = true then
      some (0, vp_updL out (0 : Int32).toNatClampNeg ((r3).toInt64))
    else none) u1)
set_option maxHeartbeats 4000000 in
set_option maxRecDepth 100000 in
theorem k_L_hammerByWear {l : Launch} {D : va_G} {t : Nat → ClassId} {ad : Nat → Nat} {o oS oN oY oG oC oP oB oL : Nat} (hl : l.stackTraces = false) (d_hasSnapshot : Int32) (d_errorAt : Int32) (d_failedAt : Int32) (h_count : Int32) (h_pitches : Nat → Int32) (h_wears : Nat → Int32) (h_slots : Nat → Int32) (h_borrowers : Nat → Int32) (h_dueDays : Nat → Int32) (h_contents : Nat → Int32) (r_count : Int32) (r_nextId : Int32) (r_ids : Nat → Int32) (r_borrowers : Nat → Int32) (r_pitches : Nat → Int32) (r_tolerances : Nat → Int32) (r_firstDays : Nat → Int32) (r_lastDays : Nat → Int32) (b_count : Int32) (b_hammers : Nat → Int32) (b_borrowers : Nat → Int32) (b_firstDays : Nat → Int32) (b_lastDays : Nat → Int32) (s_day : Int32) (s_coins : Int32) (s_bookingCoins : Int32) (s_lateCoins : Int32) (s_faceCosts : Int32) (s_broken : Int32) (s_lent : Int32) (out : Nat → Int64) (a1 : Int32) (u : Int32 × (Nat → Int64)) (hf : f_L_hammerByWear h_count h_pitches h_wears out a1 = some u) : cmh l D (jT t) yL_hammerByWear cL_hammerByWear 4 (some FieldType.int) [(0, 9, 12, 34)] { frames := 7, cells := 1, slots := 6, locals := 113 } [.ref (ad o), .int a1, .ref (ad oL)] (wD t ad o oS oN oY oG oC oP oB d_hasSnapshot d_errorAt d_failedAt ++ (wS t ad oS h_count h_pitches h_wears h_slots h_borrowers h_dueDays h_contents r_count r_nextId r_ids r_borrowers r_pitches r_tolerances r_firstDays r_lastDays b_count b_hammers b_borrowers b_firstDays b_lastDays s_day s_coins s_bookingCoins s_lateCoins s_faceCosts s_broken s_lent ++ ([(ad (oL), .inl (t 3, 1, .inr (.inl out)))]))) (fun v w => v = (some (.int u.1)) ∧ w = wD t ad o oS oN oY oG oC oP oB d_hasSnapshot d_errorAt d_failedAt ++ (wS t ad oS h_count h_pitches h_wears h_slots h_borrowers h_dueDays h_contents r_count r_nextId r_ids r_borrowers r_pitches r_tolerances r_firstDays r_lastDays b_count b_hammers b_borrowers b_firstDays b_lastDays s_day s_coins s_bookingCoins s_lateCoins s_faceCosts s_broken s_lent ++ ([(ad (oL), .inl (t 3, 1, .inr (.inl u.2)))]))) := by
  refine cmh_of RL rfl (by decide +kernel) (Nat.le_of_ble_eq_true rfl) (fun X hX hE hTB => ?_)
  change J X 0 0 (wD t ad o oS oN oY oG oC oP oB d_hasSnapshot d_errorAt d_failedAt ++ (wS t ad oS h_count h_pitches h_wears h_slots h_borrowers h_dueDays h_contents r_count r_nextId r_ids r_borrowers r_pitches r_tolerances r_firstDays r_lastDays b_count b_hammers b_borrowers b_firstDays b_lastDays s_day s_coins s_bookingCoins s_lateCoins s_faceCosts s_broken s_lent ++ ([(ad (oL), .inl (t 3, 1, .inr (.inl out)))]))) 0 [(0, .ref (ad o)), (1, .int a1), (2, .ref (ad oL))] []
  unfold f_L_hammerByWear at hf
  refine j_aload_n hX dL_hammerByWear_0 rfl 2 rfl ?_
  refine j_iconst hX 0 dL_hammerByWear_1 (by decide) ?_
  refine j_aload_n hX dL_hammerByWear_2 rfl 0 rfl ?_
  refine j_iload_n hX dL_hammerByWear_3 rfl 1 rfl ?_
  obtain ⟨u1, h2, hf⟩ := jbind hf
  refine j_mix hX [wD t ad o oS oN oY oG oC oP oB d_hasSnapshot d_errorAt d_failedAt, wS t ad oS h_count h_pitches h_wears h_slots h_borrowers h_dueDays h_contents r_count r_nextId r_ids r_borrowers r_pitches r_tolerances r_firstDays r_lastDays b_count b_hammers b_borrowers b_firstDays b_lastDays s_day s_coins s_bookingCoins s_lateCoins s_faceCosts s_broken s_lent, [(ad (oL), .inl (t 3, 1, .inr (.inl out)))]] [0, 1] [2] 3 rfl (by decide) rfl (fun hmix => ?_)
  refine j_callVXC (a := 0) (b := 0) (st := [.int 0, .ref (ad oL)]) hX hTB (k_X9_hammerByWear (l := l) (D := D) (t := t) (ad := ad) (o := o) (oS := oS) (oN := oN) (oY := oY) (oG := oG) (oC := oC) (oP := oP) (oB := oB) hl d_hasSnapshot d_errorAt d_failedAt h_count h_pitches h_wears h_slots h_borrowers h_dueDays h_contents r_count r_nextId r_ids r_borrowers r_pitches r_tolerances r_firstDays r_lastDays b_count b_hammers b_borrowers b_firstDays b_lastDays s_day s_coins s_bookingCoins s_lateCoins s_faceCosts s_broken s_lent a1 u1 h2) q997 q998 q999 q1 q1000 (n9 := 1) rfl ⟨by decide +kernel, by decide +kernel⟩ 0 rfl rfl rfl dL_hammerByWear_4 (Nat.le_of_ble_eq_true rfl) ⟨by decide, by decide⟩ (fun w : va_W => w ++ ([(ad (oL), .inl (t 3, 1, .inr (.inl out)))])) (jFr_r _) rfl rfl (fun E w hxw => ?_) (fun v w hvw => ?_)
  · obtain ⟨x4, rfl, hE4, rfl⟩ := hxw
    have hE4 := hE4.symm
    subst hE4
    have hf := jsum_l hf
    by_cases g4_0 : x4 = "java/util/NoSuchElementException"
    · have hf := jifp hf g4_0
      refine ⟨wD t ad o oS oN oY oG oC oP oB d_hasSnapshot d_errorAt d_failedAt ++ (wS t ad oS h_count h_pitches h_wears h_slots h_borrowers h_dueDays h_contents r_count r_nextId r_ids r_borrowers r_pitches r_tolerances r_firstDays r_lastDays b_count b_hammers b_borrowers b_firstDays b_lastDays s_day s_coins s_bookingCoins s_lateCoins s_faceCosts s_broken s_lent ++ ([(ad (oL), .inl (t 3, 1, .inr (.inl out)))])), 12, (jmix_perm (bs := [wD t ad o oS oN oY oG oC oP oB d_hasSnapshot d_errorAt d_failedAt, wS t ad oS h_count h_pitches h_wears h_slots h_borrowers h_dueDays h_contents r_count r_nextId r_ids r_borrowers r_pitches r_tolerances r_firstDays r_lastDays b_count b_hammers b_borrowers b_firstDays b_lastDays s_day s_coins s_bookingCoins s_lateCoins s_faceCosts s_broken s_lent, [(ad (oL), .inl (t 3, 1, .inr (.inl out)))]]) (is := [0, 1]) (js := [2]) 3 rfl (by decide)).symm, ?_, fun q => ?_⟩
      · rw [g4_0]
        exact ⟨[], { startPc := 0, endPc := 9, handlerPc := 12, catchType := 34 }, [], "java/util/NoSuchElementException", rfl, fun _ h => absurd h List.not_mem_nil, by decide, by decide, q691, q406, rfl⟩
      · change J X 1 6 (wD t ad o oS oN oY oG oC oP oB d_hasSnapshot d_errorAt d_failedAt ++ (wS t ad oS h_count h_pitches h_wears h_slots h_borrowers h_dueDays h_contents r_count r_nextId r_ids r_borrowers r_pitches r_tolerances r_firstDays r_lastDays b_count b_hammers b_borrowers b_firstDays b_lastDays s_day s_coins s_bookingCoins s_lateCoins s_faceCosts s_broken s_lent ++ ([(ad (oL), .inl (t 3, 1, .inr (.inl out)))]))) 12 [(0, .ref (ad o)), (1, .int a1), (2, .ref (ad oL))] [.ref q]
        refine j_astore_n hX [(3, .ref q), (0, .ref (ad o)), (1, .int a1), (2, .ref (ad oL))] dL_hammerByWear_12 rfl (by decide) rfl ?_
        refine j_iconst hX 1 dL_hammerByWear_13 (by decide) ?_
        cases hf
        exact j_iret hX hE dL_hammerByWear_14 (Nat.le_of_ble_eq_true rfl) (Nat.le_of_ble_eq_true rfl) ⟨rfl, rfl⟩
    have hf := jifn hf g4_0
    cases hf
  · obtain ⟨r3, rfl, rfl, rfl⟩ := hvw
    have hf := jsum_r hf
    change J X 1 6 ((wD t ad o oS oN oY oG oC oP oB d_hasSnapshot d_errorAt d_failedAt ++ (wS t ad oS h_count h_pitches h_wears h_slots h_borrowers h_dueDays h_contents r_count r_nextId r_ids r_borrowers r_pitches r_tolerances r_firstDays r_lastDays b_count b_hammers b_borrowers b_firstDays b_lastDays s_day s_coins s_bookingCoins s_lateCoins s_faceCosts s_broken s_lent)) ++ ([(ad (oL), .inl (t 3, 1, .inr (.inl out)))])) 7 [(0, .ref (ad o)), (1, .int a1), (2, .ref (ad oL))] [.int r3, .int 0, .ref (ad oL)]
    refine hmix [wD t ad o oS oN oY oG oC oP oB d_hasSnapshot d_errorAt d_failedAt, wS t ad oS h_count h_pitches h_wears h_slots h_borrowers h_dueDays h_contents r_count r_nextId r_ids r_borrowers r_pitches r_tolerances r_firstDays r_lastDays b_count b_hammers b_borrowers b_firstDays b_lastDays s_day s_coins s_bookingCoins s_lateCoins s_faceCosts s_broken s_lent, [(ad (oL), .inl (t 3, 1, .inr (.inl out)))]] _ _ _ _ _ rfl ?_
    change J X 1 6 (wD t ad o oS oN oY oG oC oP oB d_hasSnapshot d_errorAt d_failedAt ++ (wS t ad oS h_count h_pitches h_wears h_slots h_borrowers h_dueDays h_contents r_count r_nextId r_ids r_borrowers r_pitches r_tolerances r_firstDays r_lastDays b_count b_hammers b_borrowers b_firstDays b_lastDays s_day s_coins s_bookingCoins s_lateCoins s_faceCosts s_broken s_lent ++ ([(ad (oL), .inl (t 3, 1, .inr (.inl out)))]))) 7 [(0, .ref (ad o)), (1, .int a1), (2, .ref (ad oL))] [.int r3, .int 0, .ref (ad oL)]
    refine j_i2l hX dL_hammerByWear_7 ?_
    refine j_last hX (wD t ad o oS oN oY oG oC oP oB d_hasSnapshot d_errorAt d_failedAt ++ (wS t ad oS h_count h_pitches h_wears h_slots h_borrowers h_dueDays h_contents r_count r_nextId r_ids r_borrowers r_pitches r_tolerances r_firstDays r_lastDays b_count b_hammers b_borrowers b_firstDays b_lastDays s_day s_coins s_bookingCoins s_lateCoins s_faceCosts s_broken s_lent ++ ([(ad (oL), .inl (t 3, 1, .inr (.inl (vp_updL out (0 : Int32).toNatClampNeg ((r3).toInt64)))))]))) dL_hammerByWear_8 21 3 rfl rfl rfl hf (fun c8 hf => ?_)
    refine j_goto hX 15 dL_hammerByWear_9 (by decide) ?_
    refine j_iconst hX 0 dL_hammerByWear_15 (by decide) ?_
    cases hf
    exact j_iret hX hE dL_hammerByWear_16 (Nat.le_of_ble_eq_true rfl) (Nat.le_of_ble_eq_true rfl) ⟨rfl, rfl⟩
-- HammerDepotLaw type (LHammerDepot;C[J)I
def f_L_type (p_text : Nat → Int32) (p_length : Int32) (out : Nat → Int64) (a1 : Int32) : Option (Int32 × (Nat → Int32) × Int32 × (Nat → Int64)) :=
  Option.bind (f_X9_type p_text p_length a1) (fun u1 => Sum.elim (fun x4 => if x4.1 = "java/lang/IllegalArgumentException" then
    some (1, x4.2.1, x4.2.2, out)
  else
    if x4.1 = "java/lang/IllegalStateException" then
      some (2, x4.2.1, x4.2.2, out)
    else
      none) (fun r3 =>
    if jin 0 1 = true then
      some (0, r3.2.1, r3.2.2, vp_updL out (0 : Int32).toNatClampNeg ((r3.1).toInt64))
    else none) u1)
set_option maxHeartbeats 4000000 in
set_option maxRecDepth 100000 in
theorem k_L_type {l : Launch} {D : va_G} {t : Nat → ClassId} {ad : Nat → Nat} {o oS oN oY oG oC oP oB oL : Nat} (hl : l.stackTraces = false) (d_hasSnapshot : Int32) (d_errorAt : Int32) (d_failedAt : Int32) (p_text : Nat → Int32) (p_length : Int32) (p_at : Int32) (p_count : Int32) (p_kinds : Nat → Int32) (p_arguments : Nat → Int32) (p_argumentCount : Int32) (out : Nat → Int64) (a1 : Int32) (u : Int32 × (Nat → Int32) × Int32 × (Nat → Int64)) (hf : f_L_type p_text p_length out a1 = some u) : cmh l D (jT t) yL_type cL_type 4 (some FieldType.int) [(0, 9, 12, 13), (0, 9, 15, 17)] { frames := 7, cells := 1, slots := 6, locals := 111 } [.ref (ad o), .int a1, .ref (ad oL)] (wD t ad o oS oN oY oG oC oP oB d_hasSnapshot d_errorAt d_failedAt ++ (wP t ad oP p_text p_length p_at p_count p_kinds p_arguments p_argumentCount ++ ([(ad (oL), .inl (t 3, 1, .inr (.inl out)))]))) (fun v w => v = (some (.int u.1)) ∧ w = wD t ad o oS oN oY oG oC oP oB d_hasSnapshot d_errorAt d_failedAt ++ (wP t ad oP u.2.1 u.2.2.1 p_at p_count p_kinds p_arguments p_argumentCount ++ ([(ad (oL), .inl (t 3, 1, .inr (.inl u.2.2.2)))]))) := by
  refine cmh_of RL rfl (by decide +kernel) (Nat.le_of_ble_eq_true rfl) (fun X hX hE hTB => ?_)
  change J X 0 0 (wD t ad o oS oN oY oG oC oP oB d_hasSnapshot d_errorAt d_failedAt ++ (wP t ad oP p_text p_length p_at p_count p_kinds p_arguments p_argumentCount ++ ([(ad (oL), .inl (t 3, 1, .inr (.inl out)))]))) 0 [(0, .ref (ad o)), (1, .int a1), (2, .ref (ad oL))] []
  unfold f_L_type at hf
  refine j_aload_n hX dL_type_0 rfl 2 rfl ?_
  refine j_iconst hX 0 dL_type_1 (by decide) ?_
  refine j_aload_n hX dL_type_2 rfl 0 rfl ?_
  refine j_iload_n hX dL_type_3 rfl 1 rfl ?_
  obtain ⟨u1, h2, hf⟩ := jbind hf
  refine j_mix hX [wD t ad o oS oN oY oG oC oP oB d_hasSnapshot d_errorAt d_failedAt, wP t ad oP p_text p_length p_at p_count p_kinds p_arguments p_argumentCount, [(ad (oL), .inl (t 3, 1, .inr (.inl out)))]] [0, 1] [2] 3 rfl (by decide) rfl (fun hmix => ?_)
  refine j_callVXC (a := 0) (b := 0) (st := [.int 0, .ref (ad oL)]) hX hTB (k_X9_type (l := l) (D := D) (t := t) (ad := ad) (o := o) (oS := oS) (oN := oN) (oY := oY) (oG := oG) (oC := oC) (oP := oP) (oB := oB) hl d_hasSnapshot d_errorAt d_failedAt p_text p_length p_at p_count p_kinds p_arguments p_argumentCount a1 u1 h2) q1317 q1318 q1319 q1 q1320 (n9 := 1) rfl ⟨by decide +kernel, by decide +kernel⟩ 0 rfl rfl rfl dL_type_4 (Nat.le_of_ble_eq_true rfl) ⟨by decide, by decide⟩ (fun w : va_W => w ++ ([(ad (oL), .inl (t 3, 1, .inr (.inl out)))])) (jFr_r _) rfl rfl (fun E w hxw => ?_) (fun v w hvw => ?_)
  · obtain ⟨x4, rfl, rfl, rfl⟩ := hxw
    have hf := jsum_l hf
    by_cases g4_0 : x4.1 = "java/lang/IllegalArgumentException"
    · have hf := jifp hf g4_0
      refine ⟨wD t ad o oS oN oY oG oC oP oB d_hasSnapshot d_errorAt d_failedAt ++ (wP t ad oP x4.2.1 x4.2.2 p_at p_count p_kinds p_arguments p_argumentCount ++ ([(ad (oL), .inl (t 3, 1, .inr (.inl out)))])), 12, (jmix_perm (bs := [wD t ad o oS oN oY oG oC oP oB d_hasSnapshot d_errorAt d_failedAt, wP t ad oP x4.2.1 x4.2.2 p_at p_count p_kinds p_arguments p_argumentCount, [(ad (oL), .inl (t 3, 1, .inr (.inl out)))]]) (is := [0, 1]) (js := [2]) 3 rfl (by decide)).symm, ?_, fun q => ?_⟩
      · rw [g4_0]
        exact ⟨[], { startPc := 0, endPc := 9, handlerPc := 12, catchType := 13 }, [{ startPc := 0, endPc := 9, handlerPc := 15, catchType := 17 }], "java/lang/IllegalArgumentException", rfl, fun _ h => absurd h List.not_mem_nil, by decide, by decide, q598, q343, rfl⟩
      · change J X 1 6 (wD t ad o oS oN oY oG oC oP oB d_hasSnapshot d_errorAt d_failedAt ++ (wP t ad oP x4.2.1 x4.2.2 p_at p_count p_kinds p_arguments p_argumentCount ++ ([(ad (oL), .inl (t 3, 1, .inr (.inl out)))]))) 12 [(0, .ref (ad o)), (1, .int a1), (2, .ref (ad oL))] [.ref q]
        refine j_astore_n hX [(3, .ref q), (0, .ref (ad o)), (1, .int a1), (2, .ref (ad oL))] dL_type_12 rfl (by decide) rfl ?_
        refine j_iconst hX 1 dL_type_13 (by decide) ?_
        cases hf
        exact j_iret hX hE dL_type_14 (Nat.le_of_ble_eq_true rfl) (Nat.le_of_ble_eq_true rfl) ⟨rfl, rfl⟩
    have hf := jifn hf g4_0
    by_cases g4_1 : x4.1 = "java/lang/IllegalStateException"
    · have hf := jifp hf g4_1
      refine ⟨wD t ad o oS oN oY oG oC oP oB d_hasSnapshot d_errorAt d_failedAt ++ (wP t ad oP x4.2.1 x4.2.2 p_at p_count p_kinds p_arguments p_argumentCount ++ ([(ad (oL), .inl (t 3, 1, .inr (.inl out)))])), 15, (jmix_perm (bs := [wD t ad o oS oN oY oG oC oP oB d_hasSnapshot d_errorAt d_failedAt, wP t ad oP x4.2.1 x4.2.2 p_at p_count p_kinds p_arguments p_argumentCount, [(ad (oL), .inl (t 3, 1, .inr (.inl out)))]]) (is := [0, 1]) (js := [2]) 3 rfl (by decide)).symm, ?_, fun q => ?_⟩
      · rw [g4_1]
        exact ⟨[{ startPc := 0, endPc := 9, handlerPc := 12, catchType := 13 }], { startPc := 0, endPc := 9, handlerPc := 15, catchType := 17 }, [], "java/lang/IllegalStateException", rfl, List.forall_mem_cons.mpr ⟨⟨by decide, "java/lang/IllegalArgumentException", q598, List.mem_of_getElem? (i := 11) rfl⟩, fun _ h => absurd h List.not_mem_nil⟩, by decide, by decide, q609, q398, rfl⟩
      · change J X 1 6 (wD t ad o oS oN oY oG oC oP oB d_hasSnapshot d_errorAt d_failedAt ++ (wP t ad oP x4.2.1 x4.2.2 p_at p_count p_kinds p_arguments p_argumentCount ++ ([(ad (oL), .inl (t 3, 1, .inr (.inl out)))]))) 15 [(0, .ref (ad o)), (1, .int a1), (2, .ref (ad oL))] [.ref q]
        refine j_astore_n hX [(3, .ref q), (0, .ref (ad o)), (1, .int a1), (2, .ref (ad oL))] dL_type_15 rfl (by decide) rfl ?_
        refine j_iconst hX 2 dL_type_16 (by decide) ?_
        cases hf
        exact j_iret hX hE dL_type_17 (Nat.le_of_ble_eq_true rfl) (Nat.le_of_ble_eq_true rfl) ⟨rfl, rfl⟩
    have hf := jifn hf g4_1
    cases hf
  · obtain ⟨r3, rfl, rfl, rfl⟩ := hvw
    have hf := jsum_r hf
    change J X 1 6 ((wD t ad o oS oN oY oG oC oP oB d_hasSnapshot d_errorAt d_failedAt ++ (wP t ad oP r3.2.1 r3.2.2 p_at p_count p_kinds p_arguments p_argumentCount)) ++ ([(ad (oL), .inl (t 3, 1, .inr (.inl out)))])) 7 [(0, .ref (ad o)), (1, .int a1), (2, .ref (ad oL))] [.int r3.1, .int 0, .ref (ad oL)]
    refine hmix [wD t ad o oS oN oY oG oC oP oB d_hasSnapshot d_errorAt d_failedAt, wP t ad oP r3.2.1 r3.2.2 p_at p_count p_kinds p_arguments p_argumentCount, [(ad (oL), .inl (t 3, 1, .inr (.inl out)))]] _ _ _ _ _ rfl ?_
    change J X 1 6 (wD t ad o oS oN oY oG oC oP oB d_hasSnapshot d_errorAt d_failedAt ++ (wP t ad oP r3.2.1 r3.2.2 p_at p_count p_kinds p_arguments p_argumentCount ++ ([(ad (oL), .inl (t 3, 1, .inr (.inl out)))]))) 7 [(0, .ref (ad o)), (1, .int a1), (2, .ref (ad oL))] [.int r3.1, .int 0, .ref (ad oL)]
    refine j_i2l hX dL_type_7 ?_
    refine j_last hX (wD t ad o oS oN oY oG oC oP oB d_hasSnapshot d_errorAt d_failedAt ++ (wP t ad oP r3.2.1 r3.2.2 p_at p_count p_kinds p_arguments p_argumentCount ++ ([(ad (oL), .inl (t 3, 1, .inr (.inl (vp_updL out (0 : Int32).toNatClampNeg ((r3.1).toInt64)))))]))) dL_type_8 5 3 rfl rfl rfl hf (fun c8 hf => ?_)
    refine j_goto hX 18 dL_type_9 (by decide) ?_
    refine j_iconst hX 0 dL_type_18 (by decide) ?_
    cases hf
    exact j_iret hX hE dL_type_19 (Nat.le_of_ble_eq_true rfl) (Nat.le_of_ble_eq_true rfl) ⟨rfl, rfl⟩
-- HammerDepotLaw errorPosition (LHammerDepot;[J)I
def f_L_errorPosition (d_errorAt : Int32) (out : Nat → Int64) : Option (Int32 × (Nat → Int64)) :=
  Option.bind (f_X9_errorPosition d_errorAt) (fun u1 => Sum.elim (fun x4 => if x4 = "java/util/NoSuchElementException" then
    some (1, out)
  else
    none) (fun r3 =>
    if jin 0 1 = true then
      some (0, vp_updL out (0 : Int32).toNatClampNeg ((r3).toInt64))
    else none) u1)
set_option maxHeartbeats 4000000 in
set_option maxRecDepth 100000 in
theorem k_L_errorPosition {l : Launch} {D : va_G} {t : Nat → ClassId} {ad : Nat → Nat} {o oS oN oY oG oC oP oB oL : Nat} (hl : l.stackTraces = false) (d_hasSnapshot : Int32) (d_errorAt : Int32) (d_failedAt : Int32) (out : Nat → Int64)  (u : Int32 × (Nat → Int64)) (hf : f_L_errorPosition d_errorAt out = some u) : cmh l D (jT t) yL_errorPosition cL_errorPosition 3 (some FieldType.int) [(0, 8, 11, 34)] { frames := 7, cells := 1, slots := 6, locals := 110 } [.ref (ad o), .ref (ad oL)] (wD t ad o oS oN oY oG oC oP oB d_hasSnapshot d_errorAt d_failedAt ++ ([(ad (oL), .inl (t 3, 1, .inr (.inl out)))])) (fun v w => v = (some (.int u.1)) ∧ w = wD t ad o oS oN oY oG oC oP oB d_hasSnapshot d_errorAt d_failedAt ++ ([(ad (oL), .inl (t 3, 1, .inr (.inl u.2)))])) := by
  refine cmh_of RL rfl (by decide +kernel) (Nat.le_of_ble_eq_true rfl) (fun X hX hE hTB => ?_)
  change J X 0 0 (wD t ad o oS oN oY oG oC oP oB d_hasSnapshot d_errorAt d_failedAt ++ ([(ad (oL), .inl (t 3, 1, .inr (.inl out)))])) 0 [(0, .ref (ad o)), (1, .ref (ad oL))] []
  unfold f_L_errorPosition at hf
  refine j_aload_n hX dL_errorPosition_0 rfl 1 rfl ?_
  refine j_iconst hX 0 dL_errorPosition_1 (by decide) ?_
  refine j_aload_n hX dL_errorPosition_2 rfl 0 rfl ?_
  obtain ⟨u1, h2, hf⟩ := jbind hf
  refine j_mix hX [wD t ad o oS oN oY oG oC oP oB d_hasSnapshot d_errorAt d_failedAt, [(ad (oL), .inl (t 3, 1, .inr (.inl out)))]] [0] [1] 2 rfl (by decide) rfl (fun hmix => ?_)
  refine j_callVXC (a := 0) (b := 0) (st := [.int 0, .ref (ad oL)]) hX hTB (k_X9_errorPosition (l := l) (D := D) (t := t) (ad := ad) (o := o) (oS := oS) (oN := oN) (oY := oY) (oG := oG) (oC := oC) (oP := oP) (oB := oB) hl d_hasSnapshot d_errorAt d_failedAt  u1 h2) q1411 q1412 q1413 q1 q1414 (n9 := 0) rfl ⟨by decide +kernel, by decide +kernel⟩ 0 rfl rfl rfl dL_errorPosition_3 (Nat.le_of_ble_eq_true rfl) ⟨by decide, by decide⟩ (fun w : va_W => w ++ ([(ad (oL), .inl (t 3, 1, .inr (.inl out)))])) (jFr_r _) rfl rfl (fun E w hxw => ?_) (fun v w hvw => ?_)
  · obtain ⟨x4, rfl, hE4, rfl⟩ := hxw
    have hE4 := hE4.symm
    subst hE4
    have hf := jsum_l hf
    by_cases g3_0 : x4 = "java/util/NoSuchElementException"
    · have hf := jifp hf g3_0
      refine ⟨wD t ad o oS oN oY oG oC oP oB d_hasSnapshot d_errorAt d_failedAt ++ ([(ad (oL), .inl (t 3, 1, .inr (.inl out)))]), 11, (jmix_perm (bs := [wD t ad o oS oN oY oG oC oP oB d_hasSnapshot d_errorAt d_failedAt, [(ad (oL), .inl (t 3, 1, .inr (.inl out)))]]) (is := [0]) (js := [1]) 2 rfl (by decide)).symm, ?_, fun q => ?_⟩
      · rw [g3_0]
        exact ⟨[], { startPc := 0, endPc := 8, handlerPc := 11, catchType := 34 }, [], "java/util/NoSuchElementException", rfl, fun _ h => absurd h List.not_mem_nil, by decide, by decide, q691, q406, rfl⟩
      · change J X 1 6 (wD t ad o oS oN oY oG oC oP oB d_hasSnapshot d_errorAt d_failedAt ++ ([(ad (oL), .inl (t 3, 1, .inr (.inl out)))])) 11 [(0, .ref (ad o)), (1, .ref (ad oL))] [.ref q]
        refine j_astore_n hX [(2, .ref q), (0, .ref (ad o)), (1, .ref (ad oL))] dL_errorPosition_11 rfl (by decide) rfl ?_
        refine j_iconst hX 1 dL_errorPosition_12 (by decide) ?_
        cases hf
        exact j_iret hX hE dL_errorPosition_13 (Nat.le_of_ble_eq_true rfl) (Nat.le_of_ble_eq_true rfl) ⟨rfl, rfl⟩
    have hf := jifn hf g3_0
    cases hf
  · obtain ⟨r3, rfl, rfl, rfl⟩ := hvw
    have hf := jsum_r hf
    change J X 1 6 ((wD t ad o oS oN oY oG oC oP oB d_hasSnapshot d_errorAt d_failedAt) ++ ([(ad (oL), .inl (t 3, 1, .inr (.inl out)))])) 6 [(0, .ref (ad o)), (1, .ref (ad oL))] [.int r3, .int 0, .ref (ad oL)]
    refine hmix [wD t ad o oS oN oY oG oC oP oB d_hasSnapshot d_errorAt d_failedAt, [(ad (oL), .inl (t 3, 1, .inr (.inl out)))]] _ _ _ _ _ rfl ?_
    change J X 1 6 (wD t ad o oS oN oY oG oC oP oB d_hasSnapshot d_errorAt d_failedAt ++ ([(ad (oL), .inl (t 3, 1, .inr (.inl out)))])) 6 [(0, .ref (ad o)), (1, .ref (ad oL))] [.int r3, .int 0, .ref (ad oL)]
    refine j_i2l hX dL_errorPosition_6 ?_
    refine j_last hX (wD t ad o oS oN oY oG oC oP oB d_hasSnapshot d_errorAt d_failedAt ++ ([(ad (oL), .inl (t 3, 1, .inr (.inl (vp_updL out (0 : Int32).toNatClampNeg ((r3).toInt64)))))])) dL_errorPosition_7 1 3 rfl rfl rfl hf (fun c7 hf => ?_)
    refine j_goto hX 14 dL_errorPosition_8 (by decide) ?_
    refine j_iconst hX 0 dL_errorPosition_14 (by decide) ?_
    cases hf
    exact j_iret hX hE dL_errorPosition_15 (Nat.le_of_ble_eq_true rfl) (Nat.le_of_ble_eq_true rfl) ⟨rfl, rfl⟩
-- HammerDepotLaw failedCommand (LHammerDepot;[J)I
def f_L_failedCommand (d_failedAt : Int32) (out : Nat → Int64) : Option (Int32 × (Nat → Int64)) :=
  Option.bind (f_X9_failedCommand d_failedAt) (fun u1 => Sum.elim (fun x4 => if x4 = "java/util/NoSuchElementException" then
    some (1, out)
  else
    none) (fun r3 =>
    if jin 0 1 = true then
      some (0, vp_updL out (0 : Int32).toNatClampNeg ((r3).toInt64))
    else none) u1)
set_option maxHeartbeats 4000000 in
set_option maxRecDepth 100000 in
theorem k_L_failedCommand {l : Launch} {D : va_G} {t : Nat → ClassId} {ad : Nat → Nat} {o oS oN oY oG oC oP oB oL : Nat} (hl : l.stackTraces = false) (d_hasSnapshot : Int32) (d_errorAt : Int32) (d_failedAt : Int32) (out : Nat → Int64)  (u : Int32 × (Nat → Int64)) (hf : f_L_failedCommand d_failedAt out = some u) : cmh l D (jT t) yL_failedCommand cL_failedCommand 3 (some FieldType.int) [(0, 8, 11, 34)] { frames := 7, cells := 1, slots := 6, locals := 110 } [.ref (ad o), .ref (ad oL)] (wD t ad o oS oN oY oG oC oP oB d_hasSnapshot d_errorAt d_failedAt ++ ([(ad (oL), .inl (t 3, 1, .inr (.inl out)))])) (fun v w => v = (some (.int u.1)) ∧ w = wD t ad o oS oN oY oG oC oP oB d_hasSnapshot d_errorAt d_failedAt ++ ([(ad (oL), .inl (t 3, 1, .inr (.inl u.2)))])) := by
  refine cmh_of RL rfl (by decide +kernel) (Nat.le_of_ble_eq_true rfl) (fun X hX hE hTB => ?_)
  change J X 0 0 (wD t ad o oS oN oY oG oC oP oB d_hasSnapshot d_errorAt d_failedAt ++ ([(ad (oL), .inl (t 3, 1, .inr (.inl out)))])) 0 [(0, .ref (ad o)), (1, .ref (ad oL))] []
  unfold f_L_failedCommand at hf
  refine j_aload_n hX dL_failedCommand_0 rfl 1 rfl ?_
  refine j_iconst hX 0 dL_failedCommand_1 (by decide) ?_
  refine j_aload_n hX dL_failedCommand_2 rfl 0 rfl ?_
  obtain ⟨u1, h2, hf⟩ := jbind hf
  refine j_mix hX [wD t ad o oS oN oY oG oC oP oB d_hasSnapshot d_errorAt d_failedAt, [(ad (oL), .inl (t 3, 1, .inr (.inl out)))]] [0] [1] 2 rfl (by decide) rfl (fun hmix => ?_)
  refine j_callVXC (a := 0) (b := 0) (st := [.int 0, .ref (ad oL)]) hX hTB (k_X9_failedCommand (l := l) (D := D) (t := t) (ad := ad) (o := o) (oS := oS) (oN := oN) (oY := oY) (oG := oG) (oC := oC) (oP := oP) (oB := oB) hl d_hasSnapshot d_errorAt d_failedAt  u1 h2) q1418 q1419 q1420 q1 q1421 (n9 := 0) rfl ⟨by decide +kernel, by decide +kernel⟩ 0 rfl rfl rfl dL_failedCommand_3 (Nat.le_of_ble_eq_true rfl) ⟨by decide, by decide⟩ (fun w : va_W => w ++ ([(ad (oL), .inl (t 3, 1, .inr (.inl out)))])) (jFr_r _) rfl rfl (fun E w hxw => ?_) (fun v w hvw => ?_)
  · obtain ⟨x4, rfl, hE4, rfl⟩ := hxw
    have hE4 := hE4.symm
    subst hE4
    have hf := jsum_l hf
    by_cases g3_0 : x4 = "java/util/NoSuchElementException"
    · have hf := jifp hf g3_0
      refine ⟨wD t ad o oS oN oY oG oC oP oB d_hasSnapshot d_errorAt d_failedAt ++ ([(ad (oL), .inl (t 3, 1, .inr (.inl out)))]), 11, (jmix_perm (bs := [wD t ad o oS oN oY oG oC oP oB d_hasSnapshot d_errorAt d_failedAt, [(ad (oL), .inl (t 3, 1, .inr (.inl out)))]]) (is := [0]) (js := [1]) 2 rfl (by decide)).symm, ?_, fun q => ?_⟩
      · rw [g3_0]
        exact ⟨[], { startPc := 0, endPc := 8, handlerPc := 11, catchType := 34 }, [], "java/util/NoSuchElementException", rfl, fun _ h => absurd h List.not_mem_nil, by decide, by decide, q691, q406, rfl⟩
      · change J X 1 6 (wD t ad o oS oN oY oG oC oP oB d_hasSnapshot d_errorAt d_failedAt ++ ([(ad (oL), .inl (t 3, 1, .inr (.inl out)))])) 11 [(0, .ref (ad o)), (1, .ref (ad oL))] [.ref q]
        refine j_astore_n hX [(2, .ref q), (0, .ref (ad o)), (1, .ref (ad oL))] dL_failedCommand_11 rfl (by decide) rfl ?_
        refine j_iconst hX 1 dL_failedCommand_12 (by decide) ?_
        cases hf
        exact j_iret hX hE dL_failedCommand_13 (Nat.le_of_ble_eq_true rfl) (Nat.le_of_ble_eq_true rfl) ⟨rfl, rfl⟩
    have hf := jifn hf g3_0
    cases hf
  · obtain ⟨r3, rfl, rfl, rfl⟩ := hvw
    have hf := jsum_r hf
    change J X 1 6 ((wD t ad o oS oN oY oG oC oP oB d_hasSnapshot d_errorAt d_failedAt) ++ ([(ad (oL), .inl (t 3, 1, .inr (.inl out)))])) 6 [(0, .ref (ad o)), (1, .ref (ad oL))] [.int r3, .int 0, .ref (ad oL)]
    refine hmix [wD t ad o oS oN oY oG oC oP oB d_hasSnapshot d_errorAt d_failedAt, [(ad (oL), .inl (t 3, 1, .inr (.inl out)))]] _ _ _ _ _ rfl ?_
    change J X 1 6 (wD t ad o oS oN oY oG oC oP oB d_hasSnapshot d_errorAt d_failedAt ++ ([(ad (oL), .inl (t 3, 1, .inr (.inl out)))])) 6 [(0, .ref (ad o)), (1, .ref (ad oL))] [.int r3, .int 0, .ref (ad oL)]
    refine j_i2l hX dL_failedCommand_6 ?_
    refine j_last hX (wD t ad o oS oN oY oG oC oP oB d_hasSnapshot d_errorAt d_failedAt ++ ([(ad (oL), .inl (t 3, 1, .inr (.inl (vp_updL out (0 : Int32).toNatClampNeg ((r3).toInt64)))))])) dL_failedCommand_7 1 3 rfl rfl rfl hf (fun c7 hf => ?_)
    refine j_goto hX 14 dL_failedCommand_8 (by decide) ?_
    refine j_iconst hX 0 dL_failedCommand_14 (by decide) ?_
    cases hf
    exact j_iret hX hE dL_failedCommand_15 (Nat.le_of_ble_eq_true rfl) (Nat.le_of_ble_eq_true rfl) ⟨rfl, rfl⟩

-- HammerDepot$State book (II)V
def f_X8_book (r_count : Int32) (r_ids : Nat → Int32) (r_borrowers : Nat → Int32) (r_pitches : Nat → Int32) (r_tolerances : Nat → Int32) (r_firstDays : Nat → Int32) (r_lastDays : Nat → Int32) (b_count : Int32) (b_hammers : Nat → Int32) (b_borrowers : Nat → Int32) (b_firstDays : Nat → Int32) (b_lastDays : Nat → Int32) (s_coins : Int32) (s_bookingCoins : Int32) (a0 : Int32) (a1 : Int32) : Option (Int32 × (Nat → Int32) × (Nat → Int32) × (Nat → Int32) × (Nat → Int32) × (Nat → Int32) × (Nat → Int32) × Int32 × (Nat → Int32) × (Nat → Int32) × (Nat → Int32) × (Nat → Int32) × Int32 × Int32) :=
  Option.bind (f_X5_firstDayAt r_count r_firstDays a0) (fun u1 =>
    Option.bind (f_X5_lastDayAt r_count r_lastDays a0) (fun u3 =>
      Option.bind (f_X5_borrowerAt r_count r_borrowers a0) (fun u5 =>
        Option.bind (f_X0_add b_count b_hammers b_borrowers b_firstDays b_lastDays a1 u5 u1 u3) (fun u7 =>
          Option.bind (f_X5_remove r_count r_ids r_borrowers r_pitches r_tolerances r_firstDays r_lastDays a0) (fun u9 =>
            some (u9.1, u9.2.1, u9.2.2.1, u9.2.2.2.1, u9.2.2.2.2.1, u9.2.2.2.2.2.1, u9.2.2.2.2.2.2, u7.1, u7.2.1, u7.2.2.1, u7.2.2.2.1, u7.2.2.2.2, s_coins + ((u3 - u1) + 1), s_bookingCoins + ((u3 - u1) + 1)))))))
set_option maxHeartbeats 4000000 in
set_option maxRecDepth 100000 in
theorem k_X8_book {l : Launch} {D : va_G} {t : Nat → ClassId} {ad : Nat → Nat} {o : Nat} (h_count : Int32) (h_pitches : Nat → Int32) (h_wears : Nat → Int32) (h_slots : Nat → Int32) (h_borrowers : Nat → Int32) (h_dueDays : Nat → Int32) (h_contents : Nat → Int32) (r_count : Int32) (r_nextId : Int32) (r_ids : Nat → Int32) (r_borrowers : Nat → Int32) (r_pitches : Nat → Int32) (r_tolerances : Nat → Int32) (r_firstDays : Nat → Int32) (r_lastDays : Nat → Int32) (b_count : Int32) (b_hammers : Nat → Int32) (b_borrowers : Nat → Int32) (b_firstDays : Nat → Int32) (b_lastDays : Nat → Int32) (s_day : Int32) (s_coins : Int32) (s_bookingCoins : Int32) (s_lateCoins : Int32) (s_faceCosts : Int32) (s_broken : Int32) (s_lent : Int32) (a0 : Int32) (a1 : Int32) (u : Int32 × (Nat → Int32) × (Nat → Int32) × (Nat → Int32) × (Nat → Int32) × (Nat → Int32) × (Nat → Int32) × Int32 × (Nat → Int32) × (Nat → Int32) × (Nat → Int32) × (Nat → Int32) × Int32 × Int32) (hf : f_X8_book r_count r_ids r_borrowers r_pitches r_tolerances r_firstDays r_lastDays b_count b_hammers b_borrowers b_firstDays b_lastDays s_coins s_bookingCoins a0 a1 = some u) : cm l D (jT t) yX8_book cX8_book 6 none { frames := 2, cells := 0, slots := 0, locals := 43 } [.ref (ad o), .int a0, .int a1] (wS t ad o h_count h_pitches h_wears h_slots h_borrowers h_dueDays h_contents r_count r_nextId r_ids r_borrowers r_pitches r_tolerances r_firstDays r_lastDays b_count b_hammers b_borrowers b_firstDays b_lastDays s_day s_coins s_bookingCoins s_lateCoins s_faceCosts s_broken s_lent) (fun v w => v = none ∧ w = wS t ad o h_count h_pitches h_wears h_slots h_borrowers h_dueDays h_contents u.1 r_nextId u.2.1 u.2.2.1 u.2.2.2.1 u.2.2.2.2.1 u.2.2.2.2.2.1 u.2.2.2.2.2.2.1 u.2.2.2.2.2.2.2.1 u.2.2.2.2.2.2.2.2.1 u.2.2.2.2.2.2.2.2.2.1 u.2.2.2.2.2.2.2.2.2.2.1 u.2.2.2.2.2.2.2.2.2.2.2.1 s_day u.2.2.2.2.2.2.2.2.2.2.2.2.1 u.2.2.2.2.2.2.2.2.2.2.2.2.2 s_lateCoins s_faceCosts s_broken s_lent) := by
  refine cm_of RX8 rfl (by decide +kernel) (Nat.le_of_ble_eq_true rfl) (fun X hX hE => ?_)
  change J X 0 0 (wS t ad o h_count h_pitches h_wears h_slots h_borrowers h_dueDays h_contents r_count r_nextId r_ids r_borrowers r_pitches r_tolerances r_firstDays r_lastDays b_count b_hammers b_borrowers b_firstDays b_lastDays s_day s_coins s_bookingCoins s_lateCoins s_faceCosts s_broken s_lent) 0 [(0, .ref (ad o)), (1, .int a0), (2, .int a1)] []
  unfold f_X8_book at hf
  refine j_aload_n hX dX8_book_0 rfl 0 rfl ?_
  refine j_get hX dX8_book_1 inX8 1 q93 0 rfl rfl (by decide) rfl rfl ?_
  refine j_iload_n hX dX8_book_4 rfl 1 rfl ?_
  obtain ⟨u1, h2, hf⟩ := jbind hf
  refine j_callV (st := []) hX (k_X5_firstDayAt (l := l) (D := D) (t := t) (ad := ad) (o := o + 8) r_count r_nextId r_ids r_borrowers r_pitches r_tolerances r_firstDays r_lastDays a0 u1 h2) q235 q236 q237 q5 q238 (n9 := 1) rfl ⟨by decide +kernel, by decide +kernel⟩ 0 rfl rfl rfl dX8_book_5 (Nat.le_of_ble_eq_true rfl) ⟨Nat.le_refl _, Nat.le_refl _⟩ (frS_requests t ad o h_count h_pitches h_wears h_slots h_borrowers h_dueDays h_contents b_count b_hammers b_borrowers b_firstDays b_lastDays s_day s_coins s_bookingCoins s_lateCoins s_faceCosts s_broken s_lent) (frS_requests_ok t ad o h_count h_pitches h_wears h_slots h_borrowers h_dueDays h_contents b_count b_hammers b_borrowers b_firstDays b_lastDays s_day s_coins s_bookingCoins s_lateCoins s_faceCosts s_broken s_lent) rfl rfl (fun v w hvw => ?_)
  obtain ⟨rfl, rfl⟩ := hvw
  change J X 0 0 (wS t ad o h_count h_pitches h_wears h_slots h_borrowers h_dueDays h_contents r_count r_nextId r_ids r_borrowers r_pitches r_tolerances r_firstDays r_lastDays b_count b_hammers b_borrowers b_firstDays b_lastDays s_day s_coins s_bookingCoins s_lateCoins s_faceCosts s_broken s_lent) 8 [(0, .ref (ad o)), (1, .int a0), (2, .int a1)] [.int u1]
  refine j_istore_n hX [(3, .int u1), (0, .ref (ad o)), (1, .int a0), (2, .int a1)] dX8_book_8 rfl (by decide) rfl ?_
  refine j_aload_n hX dX8_book_9 rfl 1 rfl ?_
  refine j_get hX dX8_book_10 inX8 1 q93 0 rfl rfl (by decide) rfl rfl ?_
  refine j_iload_n hX dX8_book_13 rfl 2 rfl ?_
  obtain ⟨u3, h4, hf⟩ := jbind hf
  refine j_callV (st := []) hX (k_X5_lastDayAt (l := l) (D := D) (t := t) (ad := ad) (o := o + 8) r_count r_nextId r_ids r_borrowers r_pitches r_tolerances r_firstDays r_lastDays a0 u3 h4) q294 q295 q296 q5 q297 (n9 := 1) rfl ⟨by decide +kernel, by decide +kernel⟩ 0 rfl rfl rfl dX8_book_14 (Nat.le_of_ble_eq_true rfl) ⟨Nat.le_refl _, Nat.le_refl _⟩ (frS_requests t ad o h_count h_pitches h_wears h_slots h_borrowers h_dueDays h_contents b_count b_hammers b_borrowers b_firstDays b_lastDays s_day s_coins s_bookingCoins s_lateCoins s_faceCosts s_broken s_lent) (frS_requests_ok t ad o h_count h_pitches h_wears h_slots h_borrowers h_dueDays h_contents b_count b_hammers b_borrowers b_firstDays b_lastDays s_day s_coins s_bookingCoins s_lateCoins s_faceCosts s_broken s_lent) rfl rfl (fun v w hvw => ?_)
  obtain ⟨rfl, rfl⟩ := hvw
  change J X 0 0 (wS t ad o h_count h_pitches h_wears h_slots h_borrowers h_dueDays h_contents r_count r_nextId r_ids r_borrowers r_pitches r_tolerances r_firstDays r_lastDays b_count b_hammers b_borrowers b_firstDays b_lastDays s_day s_coins s_bookingCoins s_lateCoins s_faceCosts s_broken s_lent) 17 [(3, .int u1), (0, .ref (ad o)), (1, .int a0), (2, .int a1)] [.int u3]
  refine j_istore hX [(4, .int u3), (3, .int u1), (0, .ref (ad o)), (1, .int a0), (2, .int a1)] dX8_book_17 (by decide) rfl ?_
  refine j_aload_n hX dX8_book_19 rfl 2 rfl ?_
  refine j_get hX dX8_book_20 inX8 2 q96 0 rfl rfl (by decide) rfl rfl ?_
  refine j_iload_n hX dX8_book_23 rfl 4 rfl ?_
  refine j_aload_n hX dX8_book_24 rfl 2 rfl ?_
  refine j_get hX dX8_book_25 inX8 1 q93 0 rfl rfl (by decide) rfl rfl ?_
  refine j_iload_n hX dX8_book_28 rfl 3 rfl ?_
  obtain ⟨u5, h6, hf⟩ := jbind hf
  refine j_callV (st := [.int a1, .ref (ad (o + 15))]) hX (k_X5_borrowerAt (l := l) (D := D) (t := t) (ad := ad) (o := o + 8) r_count r_nextId r_ids r_borrowers r_pitches r_tolerances r_firstDays r_lastDays a0 u5 h6) q330 q331 q332 q5 q333 (n9 := 1) rfl ⟨by decide +kernel, by decide +kernel⟩ 0 rfl rfl rfl dX8_book_29 (Nat.le_of_ble_eq_true rfl) ⟨Nat.le_refl _, Nat.le_refl _⟩ (frS_requests t ad o h_count h_pitches h_wears h_slots h_borrowers h_dueDays h_contents b_count b_hammers b_borrowers b_firstDays b_lastDays s_day s_coins s_bookingCoins s_lateCoins s_faceCosts s_broken s_lent) (frS_requests_ok t ad o h_count h_pitches h_wears h_slots h_borrowers h_dueDays h_contents b_count b_hammers b_borrowers b_firstDays b_lastDays s_day s_coins s_bookingCoins s_lateCoins s_faceCosts s_broken s_lent) rfl rfl (fun v w hvw => ?_)
  obtain ⟨rfl, rfl⟩ := hvw
  change J X 0 0 (wS t ad o h_count h_pitches h_wears h_slots h_borrowers h_dueDays h_contents r_count r_nextId r_ids r_borrowers r_pitches r_tolerances r_firstDays r_lastDays b_count b_hammers b_borrowers b_firstDays b_lastDays s_day s_coins s_bookingCoins s_lateCoins s_faceCosts s_broken s_lent) 32 [(4, .int u3), (3, .int u1), (0, .ref (ad o)), (1, .int a0), (2, .int a1)] [.int u5, .int a1, .ref (ad (o + 15))]
  refine j_iload_n hX dX8_book_32 rfl 1 rfl ?_
  refine j_iload hX dX8_book_33 0 rfl ?_
  obtain ⟨u7, h8, hf⟩ := jbind hf
  refine j_callV (st := []) hX (k_X0_add (l := l) (D := D) (t := t) (ad := ad) (o := o + 15) b_count b_hammers b_borrowers b_firstDays b_lastDays a1 u5 u1 u3 u7 h8) q334 q335 q336 q6 q337 (n9 := 4) rfl ⟨by decide +kernel, by decide +kernel⟩ 0 rfl rfl rfl dX8_book_35 (Nat.le_of_ble_eq_true rfl) ⟨Nat.le_refl _, Nat.le_refl _⟩ (frS_bookings t ad o h_count h_pitches h_wears h_slots h_borrowers h_dueDays h_contents r_count r_nextId r_ids r_borrowers r_pitches r_tolerances r_firstDays r_lastDays s_day s_coins s_bookingCoins s_lateCoins s_faceCosts s_broken s_lent) (frS_bookings_ok t ad o h_count h_pitches h_wears h_slots h_borrowers h_dueDays h_contents r_count r_nextId r_ids r_borrowers r_pitches r_tolerances r_firstDays r_lastDays s_day s_coins s_bookingCoins s_lateCoins s_faceCosts s_broken s_lent) rfl rfl (fun v w hvw => ?_)
  obtain ⟨rfl, rfl⟩ := hvw
  change J X 0 0 (wS t ad o h_count h_pitches h_wears h_slots h_borrowers h_dueDays h_contents r_count r_nextId r_ids r_borrowers r_pitches r_tolerances r_firstDays r_lastDays u7.1 u7.2.1 u7.2.2.1 u7.2.2.2.1 u7.2.2.2.2 s_day s_coins s_bookingCoins s_lateCoins s_faceCosts s_broken s_lent) 38 [(4, .int u3), (3, .int u1), (0, .ref (ad o)), (1, .int a0), (2, .int a1)] []
  refine j_aload_n hX dX8_book_38 rfl 2 rfl ?_
  refine j_get hX dX8_book_39 inX8 1 q93 0 rfl rfl (by decide) rfl rfl ?_
  refine j_iload_n hX dX8_book_42 rfl 3 rfl ?_
  obtain ⟨u9, h10, hf⟩ := jbind hf
  refine j_callV (st := []) hX (k_X5_remove (l := l) (D := D) (t := t) (ad := ad) (o := o + 8) r_count r_nextId r_ids r_borrowers r_pitches r_tolerances r_firstDays r_lastDays a0 u9 h10) q243 q244 q245 q5 q246 (n9 := 1) rfl ⟨by decide +kernel, by decide +kernel⟩ 0 rfl rfl rfl dX8_book_43 (Nat.le_of_ble_eq_true rfl) ⟨Nat.le_refl _, Nat.le_refl _⟩ (frS_requests t ad o h_count h_pitches h_wears h_slots h_borrowers h_dueDays h_contents u7.1 u7.2.1 u7.2.2.1 u7.2.2.2.1 u7.2.2.2.2 s_day s_coins s_bookingCoins s_lateCoins s_faceCosts s_broken s_lent) (frS_requests_ok t ad o h_count h_pitches h_wears h_slots h_borrowers h_dueDays h_contents u7.1 u7.2.1 u7.2.2.1 u7.2.2.2.1 u7.2.2.2.2 s_day s_coins s_bookingCoins s_lateCoins s_faceCosts s_broken s_lent) rfl rfl (fun v w hvw => ?_)
  obtain ⟨rfl, rfl⟩ := hvw
  change J X 0 0 (wS t ad o h_count h_pitches h_wears h_slots h_borrowers h_dueDays h_contents u9.1 r_nextId u9.2.1 u9.2.2.1 u9.2.2.2.1 u9.2.2.2.2.1 u9.2.2.2.2.2.1 u9.2.2.2.2.2.2 u7.1 u7.2.1 u7.2.2.1 u7.2.2.2.1 u7.2.2.2.2 s_day s_coins s_bookingCoins s_lateCoins s_faceCosts s_broken s_lent) 46 [(4, .int u3), (3, .int u1), (0, .ref (ad o)), (1, .int a0), (2, .int a1)] []
  refine j_iload hX dX8_book_46 0 rfl ?_
  refine j_iload_n hX dX8_book_48 rfl 1 rfl ?_
  refine j_isub hX dX8_book_49 ?_
  refine j_iconst hX 1 dX8_book_50 (by decide) ?_
  refine j_iadd hX dX8_book_51 ?_
  refine j_istore hX [(5, .int ((u3 - u1) + 1)), (4, .int u3), (3, .int u1), (0, .ref (ad o)), (1, .int a0), (2, .int a1)] dX8_book_52 (by decide) rfl ?_
  refine j_aload_n hX dX8_book_54 rfl 3 rfl ?_
  refine j_dup hX dX8_book_55 rfl ?_
  refine j_get hX dX8_book_56 inX8 4 q100 0 rfl rfl (by decide) rfl rfl ?_
  refine j_iload hX dX8_book_59 0 rfl ?_
  refine j_iadd hX dX8_book_61 ?_
  refine j_put hX (wS t ad o h_count h_pitches h_wears h_slots h_borrowers h_dueDays h_contents u9.1 r_nextId u9.2.1 u9.2.2.1 u9.2.2.2.1 u9.2.2.2.2.1 u9.2.2.2.2.2.1 u9.2.2.2.2.2.2 u7.1 u7.2.1 u7.2.2.1 u7.2.2.2.1 u7.2.2.2.2 s_day (s_coins + ((u3 - u1) + 1)) s_bookingCoins s_lateCoins s_faceCosts s_broken s_lent) tyX8 dX8_book_62 inX8 tyX8_ok nmX8 4 q100 0 rfl rfl (by decide) rfl rfl rfl rfl rfl (Nat.le_of_ble_eq_true rfl) rfl ?_
  refine j_aload_n hX dX8_book_65 rfl 3 rfl ?_
  refine j_dup hX dX8_book_66 rfl ?_
  refine j_get hX dX8_book_67 inX8 5 q102 0 rfl rfl (by decide) rfl rfl ?_
  refine j_iload hX dX8_book_70 0 rfl ?_
  refine j_iadd hX dX8_book_72 ?_
  refine j_put hX (wS t ad o h_count h_pitches h_wears h_slots h_borrowers h_dueDays h_contents u9.1 r_nextId u9.2.1 u9.2.2.1 u9.2.2.2.1 u9.2.2.2.2.1 u9.2.2.2.2.2.1 u9.2.2.2.2.2.2 u7.1 u7.2.1 u7.2.2.1 u7.2.2.2.1 u7.2.2.2.2 s_day (s_coins + ((u3 - u1) + 1)) (s_bookingCoins + ((u3 - u1) + 1)) s_lateCoins s_faceCosts s_broken s_lent) tyX8 dX8_book_73 inX8 tyX8_ok nmX8 5 q102 0 rfl rfl (by decide) rfl rfl rfl rfl rfl (Nat.le_of_ble_eq_true rfl) rfl ?_
  cases hf
  exact j_vret hX hE dX8_book_76 (Nat.le_refl _) (Nat.le_refl _) ⟨rfl, rfl⟩
-- HammerDepot$State grantBest (I)I
def f_X8_grantBest (h_count : Int32) (h_pitches : Nat → Int32) (h_wears : Nat → Int32) (h_slots : Nat → Int32) (h_dueDays : Nat → Int32) (r_count : Int32) (r_ids : Nat → Int32) (r_borrowers : Nat → Int32) (r_pitches : Nat → Int32) (r_tolerances : Nat → Int32) (r_firstDays : Nat → Int32) (r_lastDays : Nat → Int32) (b_count : Int32) (b_hammers : Nat → Int32) (b_borrowers : Nat → Int32) (b_firstDays : Nat → Int32) (b_lastDays : Nat → Int32) (s_day : Int32) (s_coins : Int32) (s_bookingCoins : Int32) (a0 : Int32) : Option (Int32 × Int32 × (Nat → Int32) × (Nat → Int32) × (Nat → Int32) × (Nat → Int32) × (Nat → Int32) × (Nat → Int32) × Int32 × (Nat → Int32) × (Nat → Int32) × (Nat → Int32) × (Nat → Int32) × Int32 × Int32) :=
  Option.bind (f_X5_positionOf r_count r_ids a0) (fun u1 =>
    if u1 = (-1) then
      some ((-4), r_count, r_ids, r_borrowers, r_pitches, r_tolerances, r_firstDays, r_lastDays, b_count, b_hammers, b_borrowers, b_firstDays, b_lastDays, s_coins, s_bookingCoins)
    else
      Option.bind (f_X5_firstDayAt r_count r_firstDays u1) (fun u3 =>
        if s_day < u3 then
          Option.bind (f_X8_bestFor h_count h_pitches h_wears h_slots h_dueDays r_count r_pitches r_tolerances r_firstDays r_lastDays b_count b_hammers b_firstDays b_lastDays u1) (fun u5 =>
            if u5 = (-1) then
              some ((-5), r_count, r_ids, r_borrowers, r_pitches, r_tolerances, r_firstDays, r_lastDays, b_count, b_hammers, b_borrowers, b_firstDays, b_lastDays, s_coins, s_bookingCoins)
            else
              Option.bind (f_X8_book r_count r_ids r_borrowers r_pitches r_tolerances r_firstDays r_lastDays b_count b_hammers b_borrowers b_firstDays b_lastDays s_coins s_bookingCoins u1 u5) (fun u7 =>
                some (u5, u7.1, u7.2.1, u7.2.2.1, u7.2.2.2.1, u7.2.2.2.2.1, u7.2.2.2.2.2.1, u7.2.2.2.2.2.2.1, u7.2.2.2.2.2.2.2.1, u7.2.2.2.2.2.2.2.2.1, u7.2.2.2.2.2.2.2.2.2.1, u7.2.2.2.2.2.2.2.2.2.2.1, u7.2.2.2.2.2.2.2.2.2.2.2.1, u7.2.2.2.2.2.2.2.2.2.2.2.2.1, u7.2.2.2.2.2.2.2.2.2.2.2.2.2)))
        else
          some ((-3), r_count, r_ids, r_borrowers, r_pitches, r_tolerances, r_firstDays, r_lastDays, b_count, b_hammers, b_borrowers, b_firstDays, b_lastDays, s_coins, s_bookingCoins)))
set_option maxHeartbeats 4000000 in
set_option maxRecDepth 100000 in
theorem k_X8_grantBest {l : Launch} {D : va_G} {t : Nat → ClassId} {ad : Nat → Nat} {o : Nat} (h_count : Int32) (h_pitches : Nat → Int32) (h_wears : Nat → Int32) (h_slots : Nat → Int32) (h_borrowers : Nat → Int32) (h_dueDays : Nat → Int32) (h_contents : Nat → Int32) (r_count : Int32) (r_nextId : Int32) (r_ids : Nat → Int32) (r_borrowers : Nat → Int32) (r_pitches : Nat → Int32) (r_tolerances : Nat → Int32) (r_firstDays : Nat → Int32) (r_lastDays : Nat → Int32) (b_count : Int32) (b_hammers : Nat → Int32) (b_borrowers : Nat → Int32) (b_firstDays : Nat → Int32) (b_lastDays : Nat → Int32) (s_day : Int32) (s_coins : Int32) (s_bookingCoins : Int32) (s_lateCoins : Int32) (s_faceCosts : Int32) (s_broken : Int32) (s_lent : Int32) (a0 : Int32) (u : Int32 × Int32 × (Nat → Int32) × (Nat → Int32) × (Nat → Int32) × (Nat → Int32) × (Nat → Int32) × (Nat → Int32) × Int32 × (Nat → Int32) × (Nat → Int32) × (Nat → Int32) × (Nat → Int32) × Int32 × Int32) (hf : f_X8_grantBest h_count h_pitches h_wears h_slots h_dueDays r_count r_ids r_borrowers r_pitches r_tolerances r_firstDays r_lastDays b_count b_hammers b_borrowers b_firstDays b_lastDays s_day s_coins s_bookingCoins a0 = some u) : cm l D (jT t) yX8_grantBest cX8_grantBest 4 (some FieldType.int) { frames := 4, cells := 0, slots := 0, locals := 93 } [.ref (ad o), .int a0] (wS t ad o h_count h_pitches h_wears h_slots h_borrowers h_dueDays h_contents r_count r_nextId r_ids r_borrowers r_pitches r_tolerances r_firstDays r_lastDays b_count b_hammers b_borrowers b_firstDays b_lastDays s_day s_coins s_bookingCoins s_lateCoins s_faceCosts s_broken s_lent) (fun v w => v = (some (.int u.1)) ∧ w = wS t ad o h_count h_pitches h_wears h_slots h_borrowers h_dueDays h_contents u.2.1 r_nextId u.2.2.1 u.2.2.2.1 u.2.2.2.2.1 u.2.2.2.2.2.1 u.2.2.2.2.2.2.1 u.2.2.2.2.2.2.2.1 u.2.2.2.2.2.2.2.2.1 u.2.2.2.2.2.2.2.2.2.1 u.2.2.2.2.2.2.2.2.2.2.1 u.2.2.2.2.2.2.2.2.2.2.2.1 u.2.2.2.2.2.2.2.2.2.2.2.2.1 s_day u.2.2.2.2.2.2.2.2.2.2.2.2.2.1 u.2.2.2.2.2.2.2.2.2.2.2.2.2.2 s_lateCoins s_faceCosts s_broken s_lent) := by
  refine cm_of RX8 rfl (by decide +kernel) (Nat.le_of_ble_eq_true rfl) (fun X hX hE => ?_)
  change J X 0 0 (wS t ad o h_count h_pitches h_wears h_slots h_borrowers h_dueDays h_contents r_count r_nextId r_ids r_borrowers r_pitches r_tolerances r_firstDays r_lastDays b_count b_hammers b_borrowers b_firstDays b_lastDays s_day s_coins s_bookingCoins s_lateCoins s_faceCosts s_broken s_lent) 0 [(0, .ref (ad o)), (1, .int a0)] []
  unfold f_X8_grantBest at hf
  refine j_aload_n hX dX8_grantBest_0 rfl 0 rfl ?_
  refine j_get hX dX8_grantBest_1 inX8 1 q93 0 rfl rfl (by decide) rfl rfl ?_
  refine j_iload_n hX dX8_grantBest_4 rfl 1 rfl ?_
  obtain ⟨u1, h2, hf⟩ := jbind hf
  refine j_callV (st := []) hX (k_X5_positionOf (l := l) (D := D) (t := t) (ad := ad) (o := o + 8) r_count r_nextId r_ids r_borrowers r_pitches r_tolerances r_firstDays r_lastDays a0 u1 h2) q700 q701 q702 q5 q703 (n9 := 1) rfl ⟨by decide +kernel, by decide +kernel⟩ 0 rfl rfl rfl dX8_grantBest_5 (Nat.le_of_ble_eq_true rfl) ⟨Nat.le_refl _, Nat.le_refl _⟩ (frS_requests t ad o h_count h_pitches h_wears h_slots h_borrowers h_dueDays h_contents b_count b_hammers b_borrowers b_firstDays b_lastDays s_day s_coins s_bookingCoins s_lateCoins s_faceCosts s_broken s_lent) (frS_requests_ok t ad o h_count h_pitches h_wears h_slots h_borrowers h_dueDays h_contents b_count b_hammers b_borrowers b_firstDays b_lastDays s_day s_coins s_bookingCoins s_lateCoins s_faceCosts s_broken s_lent) rfl rfl (fun v w hvw => ?_)
  obtain ⟨rfl, rfl⟩ := hvw
  change J X 0 0 (wS t ad o h_count h_pitches h_wears h_slots h_borrowers h_dueDays h_contents r_count r_nextId r_ids r_borrowers r_pitches r_tolerances r_firstDays r_lastDays b_count b_hammers b_borrowers b_firstDays b_lastDays s_day s_coins s_bookingCoins s_lateCoins s_faceCosts s_broken s_lent) 8 [(0, .ref (ad o)), (1, .int a0)] [.int u1]
  refine j_istore_n hX [(2, .int u1), (0, .ref (ad o)), (1, .int a0)] dX8_grantBest_8 rfl (by decide) rfl ?_
  refine j_iload_n hX dX8_grantBest_9 rfl 0 rfl ?_
  refine j_iconst hX (-1) dX8_grantBest_10 (by decide) ?_
  refine j_icmp_ne hX 17 dX8_grantBest_11 (by decide) hf (fun c11 hf => ?_) (fun c11 hf => ?_)
  · refine j_aload_n hX dX8_grantBest_17 rfl 1 rfl ?_
    refine j_get hX dX8_grantBest_18 inX8 1 q93 0 rfl rfl (by decide) rfl rfl ?_
    refine j_iload_n hX dX8_grantBest_21 rfl 0 rfl ?_
    obtain ⟨u3, h4, hf⟩ := jbind hf
    refine j_callV (st := []) hX (k_X5_firstDayAt (l := l) (D := D) (t := t) (ad := ad) (o := o + 8) r_count r_nextId r_ids r_borrowers r_pitches r_tolerances r_firstDays r_lastDays u1 u3 h4) q235 q236 q237 q5 q238 (n9 := 1) rfl ⟨by decide +kernel, by decide +kernel⟩ 0 rfl rfl rfl dX8_grantBest_22 (Nat.le_of_ble_eq_true rfl) ⟨Nat.le_refl _, Nat.le_refl _⟩ (frS_requests t ad o h_count h_pitches h_wears h_slots h_borrowers h_dueDays h_contents b_count b_hammers b_borrowers b_firstDays b_lastDays s_day s_coins s_bookingCoins s_lateCoins s_faceCosts s_broken s_lent) (frS_requests_ok t ad o h_count h_pitches h_wears h_slots h_borrowers h_dueDays h_contents b_count b_hammers b_borrowers b_firstDays b_lastDays s_day s_coins s_bookingCoins s_lateCoins s_faceCosts s_broken s_lent) rfl rfl (fun v w hvw => ?_)
    obtain ⟨rfl, rfl⟩ := hvw
    change J X 0 0 (wS t ad o h_count h_pitches h_wears h_slots h_borrowers h_dueDays h_contents r_count r_nextId r_ids r_borrowers r_pitches r_tolerances r_firstDays r_lastDays b_count b_hammers b_borrowers b_firstDays b_lastDays s_day s_coins s_bookingCoins s_lateCoins s_faceCosts s_broken s_lent) 25 [(2, .int u1), (0, .ref (ad o)), (1, .int a0)] [.int u3]
    refine j_aload_n hX dX8_grantBest_25 rfl 1 rfl ?_
    refine j_get hX dX8_grantBest_26 inX8 3 q98 0 rfl rfl (by decide) rfl rfl ?_
    refine j_icmp_gt hX 35 dX8_grantBest_29 (by decide) hf (fun c29 hf => ?_) (fun c29 hf => ?_)
    · refine j_aload_n hX dX8_grantBest_35 rfl 1 rfl ?_
      refine j_iload_n hX dX8_grantBest_36 rfl 0 rfl ?_
      obtain ⟨u5, h6, hf⟩ := jbind hf
      refine j_callV (st := []) hX (k_X8_bestFor (l := l) (D := D) (t := t) (ad := ad) (o := o) h_count h_pitches h_wears h_slots h_borrowers h_dueDays h_contents r_count r_nextId r_ids r_borrowers r_pitches r_tolerances r_firstDays r_lastDays b_count b_hammers b_borrowers b_firstDays b_lastDays s_day s_coins s_bookingCoins s_lateCoins s_faceCosts s_broken s_lent u1 u5 h6) q720 q721 q722 q2 q723 (n9 := 1) rfl ⟨by decide +kernel, by decide +kernel⟩ 0 rfl rfl rfl dX8_grantBest_37 (Nat.le_of_ble_eq_true rfl) ⟨Nat.le_refl _, Nat.le_refl _⟩ (fun w : va_W => w) jFr_id rfl rfl (fun v w hvw => ?_)
      obtain ⟨rfl, rfl⟩ := hvw
      change J X 0 0 (wS t ad o h_count h_pitches h_wears h_slots h_borrowers h_dueDays h_contents r_count r_nextId r_ids r_borrowers r_pitches r_tolerances r_firstDays r_lastDays b_count b_hammers b_borrowers b_firstDays b_lastDays s_day s_coins s_bookingCoins s_lateCoins s_faceCosts s_broken s_lent) 40 [(2, .int u1), (0, .ref (ad o)), (1, .int a0)] [.int u5]
      refine j_istore_n hX [(3, .int u5), (2, .int u1), (0, .ref (ad o)), (1, .int a0)] dX8_grantBest_40 rfl (by decide) rfl ?_
      refine j_iload_n hX dX8_grantBest_41 rfl 0 rfl ?_
      refine j_iconst hX (-1) dX8_grantBest_42 (by decide) ?_
      refine j_icmp_ne hX 49 dX8_grantBest_43 (by decide) hf (fun c43 hf => ?_) (fun c43 hf => ?_)
      · refine j_aload_n hX dX8_grantBest_49 rfl 2 rfl ?_
        refine j_iload_n hX dX8_grantBest_50 rfl 1 rfl ?_
        refine j_iload_n hX dX8_grantBest_51 rfl 0 rfl ?_
        obtain ⟨u7, h8, hf⟩ := jbind hf
        refine j_callV (st := []) hX (k_X8_book (l := l) (D := D) (t := t) (ad := ad) (o := o) h_count h_pitches h_wears h_slots h_borrowers h_dueDays h_contents r_count r_nextId r_ids r_borrowers r_pitches r_tolerances r_firstDays r_lastDays b_count b_hammers b_borrowers b_firstDays b_lastDays s_day s_coins s_bookingCoins s_lateCoins s_faceCosts s_broken s_lent u1 u5 u7 h8) q327 q328 q1921 q2 q329 (n9 := 2) rfl ⟨by decide +kernel, by decide +kernel⟩ 0 rfl rfl rfl dX8_grantBest_52 (Nat.le_of_ble_eq_true rfl) ⟨Nat.le_refl _, Nat.le_refl _⟩ (fun w : va_W => w) jFr_id rfl rfl (fun v w hvw => ?_)
        obtain ⟨rfl, rfl⟩ := hvw
        change J X 0 0 (wS t ad o h_count h_pitches h_wears h_slots h_borrowers h_dueDays h_contents u7.1 r_nextId u7.2.1 u7.2.2.1 u7.2.2.2.1 u7.2.2.2.2.1 u7.2.2.2.2.2.1 u7.2.2.2.2.2.2.1 u7.2.2.2.2.2.2.2.1 u7.2.2.2.2.2.2.2.2.1 u7.2.2.2.2.2.2.2.2.2.1 u7.2.2.2.2.2.2.2.2.2.2.1 u7.2.2.2.2.2.2.2.2.2.2.2.1 s_day u7.2.2.2.2.2.2.2.2.2.2.2.2.1 u7.2.2.2.2.2.2.2.2.2.2.2.2.2 s_lateCoins s_faceCosts s_broken s_lent) 55 [(3, .int u5), (2, .int u1), (0, .ref (ad o)), (1, .int a0)] []
        refine j_iload_n hX dX8_grantBest_55 rfl 0 rfl ?_
        cases hf
        exact j_iret hX hE dX8_grantBest_56 (Nat.le_refl _) (Nat.le_refl _) ⟨rfl, rfl⟩
      · refine j_bipush hX (-5) dX8_grantBest_46 (by decide) ?_
        cases hf
        exact j_iret hX hE dX8_grantBest_48 (Nat.le_refl _) (Nat.le_refl _) ⟨rfl, rfl⟩
    · refine j_bipush hX (-3) dX8_grantBest_32 (by decide) ?_
      cases hf
      exact j_iret hX hE dX8_grantBest_34 (Nat.le_refl _) (Nat.le_refl _) ⟨rfl, rfl⟩
  · refine j_bipush hX (-4) dX8_grantBest_14 (by decide) ?_
    cases hf
    exact j_iret hX hE dX8_grantBest_16 (Nat.le_refl _) (Nat.le_refl _) ⟨rfl, rfl⟩
-- HammerDepot$State dropRequestsThatHaveCome ()V
def f_X8_dropRequestsThatHaveCome_L10 (s_day : Int32) : Nat → Int32 → Int32 → (Nat → Int32) → (Nat → Int32) → (Nat → Int32) → (Nat → Int32) → (Nat → Int32) → (Nat → Int32) → Option (Int32 × Int32 × (Nat → Int32) × (Nat → Int32) × (Nat → Int32) × (Nat → Int32) × (Nat → Int32) × (Nat → Int32))
  | 0, _, _, _, _, _, _, _, _ => none
  | jn + 1, x1, r_count, r_ids, r_borrowers, r_pitches, r_tolerances, r_firstDays, r_lastDays =>
    if x1 < 0 then
      some (x1, r_count, r_ids, r_borrowers, r_pitches, r_tolerances, r_firstDays, r_lastDays)
    else
      Option.bind (f_X5_firstDayAt r_count r_firstDays x1) (fun u3 =>
        if s_day < u3 then
          f_X8_dropRequestsThatHaveCome_L10 s_day jn (x1 + (-1)) r_count r_ids r_borrowers r_pitches r_tolerances r_firstDays r_lastDays
        else
          Option.bind (f_X5_remove r_count r_ids r_borrowers r_pitches r_tolerances r_firstDays r_lastDays x1) (fun u5 =>
            f_X8_dropRequestsThatHaveCome_L10 s_day jn (x1 + (-1)) u5.1 u5.2.1 u5.2.2.1 u5.2.2.2.1 u5.2.2.2.2.1 u5.2.2.2.2.2.1 u5.2.2.2.2.2.2))
def f_X8_dropRequestsThatHaveCome (r_count : Int32) (r_ids : Nat → Int32) (r_borrowers : Nat → Int32) (r_pitches : Nat → Int32) (r_tolerances : Nat → Int32) (r_firstDays : Nat → Int32) (r_lastDays : Nat → Int32) (s_day : Int32) : Option (Int32 × (Nat → Int32) × (Nat → Int32) × (Nat → Int32) × (Nat → Int32) × (Nat → Int32) × (Nat → Int32)) :=
  Option.bind (f_X5_size r_count) (fun u1 =>
    Option.bind (f_X8_dropRequestsThatHaveCome_L10 s_day jFU (u1 - 1) r_count r_ids r_borrowers r_pitches r_tolerances r_firstDays r_lastDays) (fun s8 =>
      some (s8.2.1, s8.2.2.1, s8.2.2.2.1, s8.2.2.2.2.1, s8.2.2.2.2.2.1, s8.2.2.2.2.2.2.1, s8.2.2.2.2.2.2.2)))
set_option maxHeartbeats 4000000 in
set_option maxRecDepth 100000 in
theorem k_X8_dropRequestsThatHaveCome_L10 {l : Launch} {D : va_G} {t : Nat → ClassId} {ad : Nat → Nat} {o : Nat} (s_day : Int32) (h_count : Int32) (h_pitches : Nat → Int32) (h_wears : Nat → Int32) (h_slots : Nat → Int32) (h_borrowers : Nat → Int32) (h_dueDays : Nat → Int32) (h_contents : Nat → Int32) (r_nextId : Int32) (b_count : Int32) (b_hammers : Nat → Int32) (b_borrowers : Nat → Int32) (b_firstDays : Nat → Int32) (b_lastDays : Nat → Int32) (s_coins : Int32) (s_bookingCoins : Int32) (s_lateCoins : Int32) (s_faceCosts : Int32) (s_broken : Int32) (s_lent : Int32) {X : jX} (hX : jOK X l D (jT t) cX8_dropRequestsThatHaveCome RX8 none { frames := 2, cells := 0, slots := 0, locals := 43 } 2) :
    ∀ (jn : Nat) (x1 : Int32) (r_count : Int32) (r_ids : Nat → Int32) (r_borrowers : Nat → Int32) (r_pitches : Nat → Int32) (r_tolerances : Nat → Int32) (r_firstDays : Nat → Int32) (r_lastDays : Nat → Int32) (u : Int32 × Int32 × (Nat → Int32) × (Nat → Int32) × (Nat → Int32) × (Nat → Int32) × (Nat → Int32) × (Nat → Int32)) (hf : f_X8_dropRequestsThatHaveCome_L10 s_day jn x1 r_count r_ids r_borrowers r_pitches r_tolerances r_firstDays r_lastDays = some u) (kx : ∀ s : Int32 × Int32 × (Nat → Int32) × (Nat → Int32) × (Nat → Int32) × (Nat → Int32) × (Nat → Int32) × (Nat → Int32), u = s → J X 0 0 (wS t ad o h_count h_pitches h_wears h_slots h_borrowers h_dueDays h_contents s.2.1 r_nextId s.2.2.1 s.2.2.2.1 s.2.2.2.2.1 s.2.2.2.2.2.1 s.2.2.2.2.2.2.1 s.2.2.2.2.2.2.2 b_count b_hammers b_borrowers b_firstDays b_lastDays s_day s_coins s_bookingCoins s_lateCoins s_faceCosts s_broken s_lent) 43 [(1, .int s.1), (0, .ref (ad o))] []), J X 0 0 (wS t ad o h_count h_pitches h_wears h_slots h_borrowers h_dueDays h_contents r_count r_nextId r_ids r_borrowers r_pitches r_tolerances r_firstDays r_lastDays b_count b_hammers b_borrowers b_firstDays b_lastDays s_day s_coins s_bookingCoins s_lateCoins s_faceCosts s_broken s_lent) 10 [(1, .int x1), (0, .ref (ad o))] [] := by
  intro jn
  induction jn with
  | zero => intro x1 r_count r_ids r_borrowers r_pitches r_tolerances r_firstDays r_lastDays u hf; cases (show (none : Option (Int32 × Int32 × (Nat → Int32) × (Nat → Int32) × (Nat → Int32) × (Nat → Int32) × (Nat → Int32) × (Nat → Int32))) = some u from hf)
  | succ jn ih =>
    intro x1 r_count r_ids r_borrowers r_pitches r_tolerances r_firstDays r_lastDays u hf kx
    unfold f_X8_dropRequestsThatHaveCome_L10 at hf
    refine j_iload_n hX dX8_dropRequestsThatHaveCome_10 rfl 0 rfl ?_
    refine j_if_lt hX 43 dX8_dropRequestsThatHaveCome_11 (by decide) hf (fun c11 hf => ?_) (fun c11 hf => ?_)
    · cases hf
      exact kx _ rfl
    · refine j_aload_n hX dX8_dropRequestsThatHaveCome_14 rfl 1 rfl ?_
      refine j_get hX dX8_dropRequestsThatHaveCome_15 inX8 1 q93 0 rfl rfl (by decide) rfl rfl ?_
      refine j_iload_n hX dX8_dropRequestsThatHaveCome_18 rfl 0 rfl ?_
      obtain ⟨u3, h4, hf⟩ := jbind hf
      refine j_callV (st := []) hX (k_X5_firstDayAt (l := l) (D := D) (t := t) (ad := ad) (o := o + 8) r_count r_nextId r_ids r_borrowers r_pitches r_tolerances r_firstDays r_lastDays x1 u3 h4) q235 q236 q237 q5 q238 (n9 := 1) rfl ⟨by decide +kernel, by decide +kernel⟩ 0 rfl rfl rfl dX8_dropRequestsThatHaveCome_19 (Nat.le_of_ble_eq_true rfl) ⟨Nat.le_refl _, Nat.le_refl _⟩ (frS_requests t ad o h_count h_pitches h_wears h_slots h_borrowers h_dueDays h_contents b_count b_hammers b_borrowers b_firstDays b_lastDays s_day s_coins s_bookingCoins s_lateCoins s_faceCosts s_broken s_lent) (frS_requests_ok t ad o h_count h_pitches h_wears h_slots h_borrowers h_dueDays h_contents b_count b_hammers b_borrowers b_firstDays b_lastDays s_day s_coins s_bookingCoins s_lateCoins s_faceCosts s_broken s_lent) rfl rfl (fun v w hvw => ?_)
      obtain ⟨rfl, rfl⟩ := hvw
      change J X 0 0 (wS t ad o h_count h_pitches h_wears h_slots h_borrowers h_dueDays h_contents r_count r_nextId r_ids r_borrowers r_pitches r_tolerances r_firstDays r_lastDays b_count b_hammers b_borrowers b_firstDays b_lastDays s_day s_coins s_bookingCoins s_lateCoins s_faceCosts s_broken s_lent) 22 [(1, .int x1), (0, .ref (ad o))] [.int u3]
      refine j_aload_n hX dX8_dropRequestsThatHaveCome_22 rfl 1 rfl ?_
      refine j_get hX dX8_dropRequestsThatHaveCome_23 inX8 3 q98 0 rfl rfl (by decide) rfl rfl ?_
      refine j_icmp_gt hX 37 dX8_dropRequestsThatHaveCome_26 (by decide) hf (fun c26 hf => ?_) (fun c26 hf => ?_)
      · refine j_iinc hX (x1 + (-1)) [(1, .int (x1 + (-1))), (0, .ref (ad o))] dX8_dropRequestsThatHaveCome_37 0 rfl rfl (by decide) rfl ?_
        refine j_goto hX 10 dX8_dropRequestsThatHaveCome_40 (by decide) ?_
        exact ih (x1 + (-1)) r_count r_ids r_borrowers r_pitches r_tolerances r_firstDays r_lastDays u hf kx
      · refine j_aload_n hX dX8_dropRequestsThatHaveCome_29 rfl 1 rfl ?_
        refine j_get hX dX8_dropRequestsThatHaveCome_30 inX8 1 q93 0 rfl rfl (by decide) rfl rfl ?_
        refine j_iload_n hX dX8_dropRequestsThatHaveCome_33 rfl 0 rfl ?_
        obtain ⟨u5, h6, hf⟩ := jbind hf
        refine j_callV (st := []) hX (k_X5_remove (l := l) (D := D) (t := t) (ad := ad) (o := o + 8) r_count r_nextId r_ids r_borrowers r_pitches r_tolerances r_firstDays r_lastDays x1 u5 h6) q243 q244 q245 q5 q246 (n9 := 1) rfl ⟨by decide +kernel, by decide +kernel⟩ 0 rfl rfl rfl dX8_dropRequestsThatHaveCome_34 (Nat.le_of_ble_eq_true rfl) ⟨Nat.le_refl _, Nat.le_refl _⟩ (frS_requests t ad o h_count h_pitches h_wears h_slots h_borrowers h_dueDays h_contents b_count b_hammers b_borrowers b_firstDays b_lastDays s_day s_coins s_bookingCoins s_lateCoins s_faceCosts s_broken s_lent) (frS_requests_ok t ad o h_count h_pitches h_wears h_slots h_borrowers h_dueDays h_contents b_count b_hammers b_borrowers b_firstDays b_lastDays s_day s_coins s_bookingCoins s_lateCoins s_faceCosts s_broken s_lent) rfl rfl (fun v w hvw => ?_)
        obtain ⟨rfl, rfl⟩ := hvw
        change J X 0 0 (wS t ad o h_count h_pitches h_wears h_slots h_borrowers h_dueDays h_contents u5.1 r_nextId u5.2.1 u5.2.2.1 u5.2.2.2.1 u5.2.2.2.2.1 u5.2.2.2.2.2.1 u5.2.2.2.2.2.2 b_count b_hammers b_borrowers b_firstDays b_lastDays s_day s_coins s_bookingCoins s_lateCoins s_faceCosts s_broken s_lent) 37 [(1, .int x1), (0, .ref (ad o))] []
        refine j_iinc hX (x1 + (-1)) [(1, .int (x1 + (-1))), (0, .ref (ad o))] dX8_dropRequestsThatHaveCome_37 0 rfl rfl (by decide) rfl ?_
        refine j_goto hX 10 dX8_dropRequestsThatHaveCome_40 (by decide) ?_
        exact ih (x1 + (-1)) u5.1 u5.2.1 u5.2.2.1 u5.2.2.2.1 u5.2.2.2.2.1 u5.2.2.2.2.2.1 u5.2.2.2.2.2.2 u hf kx
set_option maxHeartbeats 4000000 in
set_option maxRecDepth 100000 in
theorem k_X8_dropRequestsThatHaveCome {l : Launch} {D : va_G} {t : Nat → ClassId} {ad : Nat → Nat} {o : Nat} (h_count : Int32) (h_pitches : Nat → Int32) (h_wears : Nat → Int32) (h_slots : Nat → Int32) (h_borrowers : Nat → Int32) (h_dueDays : Nat → Int32) (h_contents : Nat → Int32) (r_count : Int32) (r_nextId : Int32) (r_ids : Nat → Int32) (r_borrowers : Nat → Int32) (r_pitches : Nat → Int32) (r_tolerances : Nat → Int32) (r_firstDays : Nat → Int32) (r_lastDays : Nat → Int32) (b_count : Int32) (b_hammers : Nat → Int32) (b_borrowers : Nat → Int32) (b_firstDays : Nat → Int32) (b_lastDays : Nat → Int32) (s_day : Int32) (s_coins : Int32) (s_bookingCoins : Int32) (s_lateCoins : Int32) (s_faceCosts : Int32) (s_broken : Int32) (s_lent : Int32)  (u : Int32 × (Nat → Int32) × (Nat → Int32) × (Nat → Int32) × (Nat → Int32) × (Nat → Int32) × (Nat → Int32)) (hf : f_X8_dropRequestsThatHaveCome r_count r_ids r_borrowers r_pitches r_tolerances r_firstDays r_lastDays s_day = some u) : cm l D (jT t) yX8_dropRequestsThatHaveCome cX8_dropRequestsThatHaveCome 2 none { frames := 2, cells := 0, slots := 0, locals := 43 } [.ref (ad o)] (wS t ad o h_count h_pitches h_wears h_slots h_borrowers h_dueDays h_contents r_count r_nextId r_ids r_borrowers r_pitches r_tolerances r_firstDays r_lastDays b_count b_hammers b_borrowers b_firstDays b_lastDays s_day s_coins s_bookingCoins s_lateCoins s_faceCosts s_broken s_lent) (fun v w => v = none ∧ w = wS t ad o h_count h_pitches h_wears h_slots h_borrowers h_dueDays h_contents u.1 r_nextId u.2.1 u.2.2.1 u.2.2.2.1 u.2.2.2.2.1 u.2.2.2.2.2.1 u.2.2.2.2.2.2 b_count b_hammers b_borrowers b_firstDays b_lastDays s_day s_coins s_bookingCoins s_lateCoins s_faceCosts s_broken s_lent) := by
  refine cm_of RX8 rfl (by decide +kernel) (Nat.le_of_ble_eq_true rfl) (fun X hX hE => ?_)
  change J X 0 0 (wS t ad o h_count h_pitches h_wears h_slots h_borrowers h_dueDays h_contents r_count r_nextId r_ids r_borrowers r_pitches r_tolerances r_firstDays r_lastDays b_count b_hammers b_borrowers b_firstDays b_lastDays s_day s_coins s_bookingCoins s_lateCoins s_faceCosts s_broken s_lent) 0 [(0, .ref (ad o))] []
  unfold f_X8_dropRequestsThatHaveCome at hf
  refine j_aload_n hX dX8_dropRequestsThatHaveCome_0 rfl 0 rfl ?_
  refine j_get hX dX8_dropRequestsThatHaveCome_1 inX8 1 q93 0 rfl rfl (by decide) rfl rfl ?_
  obtain ⟨u1, h2, hf⟩ := jbind hf
  refine j_callV (st := []) hX (k_X5_size (l := l) (D := D) (t := t) (ad := ad) (o := o + 8) r_count r_nextId r_ids r_borrowers r_pitches r_tolerances r_firstDays r_lastDays  u1 h2) q231 q232 q233 q5 q234 (n9 := 0) rfl ⟨by decide +kernel, by decide +kernel⟩ 0 rfl rfl rfl dX8_dropRequestsThatHaveCome_4 (Nat.le_of_ble_eq_true rfl) ⟨Nat.le_refl _, Nat.le_refl _⟩ (frS_requests t ad o h_count h_pitches h_wears h_slots h_borrowers h_dueDays h_contents b_count b_hammers b_borrowers b_firstDays b_lastDays s_day s_coins s_bookingCoins s_lateCoins s_faceCosts s_broken s_lent) (frS_requests_ok t ad o h_count h_pitches h_wears h_slots h_borrowers h_dueDays h_contents b_count b_hammers b_borrowers b_firstDays b_lastDays s_day s_coins s_bookingCoins s_lateCoins s_faceCosts s_broken s_lent) rfl rfl (fun v w hvw => ?_)
  obtain ⟨rfl, rfl⟩ := hvw
  change J X 0 0 (wS t ad o h_count h_pitches h_wears h_slots h_borrowers h_dueDays h_contents r_count r_nextId r_ids r_borrowers r_pitches r_tolerances r_firstDays r_lastDays b_count b_hammers b_borrowers b_firstDays b_lastDays s_day s_coins s_bookingCoins s_lateCoins s_faceCosts s_broken s_lent) 7 [(0, .ref (ad o))] [.int u1]
  refine j_iconst hX 1 dX8_dropRequestsThatHaveCome_7 (by decide) ?_
  refine j_isub hX dX8_dropRequestsThatHaveCome_8 ?_
  refine j_istore_n hX [(1, .int (u1 - 1)), (0, .ref (ad o))] dX8_dropRequestsThatHaveCome_9 rfl (by decide) rfl ?_
  obtain ⟨s8, h9, hf⟩ := jbind hf
  refine k_X8_dropRequestsThatHaveCome_L10 (ad := ad) s_day h_count h_pitches h_wears h_slots h_borrowers h_dueDays h_contents r_nextId b_count b_hammers b_borrowers b_firstDays b_lastDays s_coins s_bookingCoins s_lateCoins s_faceCosts s_broken s_lent hX jFU (u1 - 1) r_count r_ids r_borrowers r_pitches r_tolerances r_firstDays r_lastDays s8 h9 (fun s80 es8 => ?_)
  subst es8
  cases hf
  exact j_vret hX hE dX8_dropRequestsThatHaveCome_43 (Nat.le_refl _) (Nat.le_refl _) ⟨rfl, rfl⟩
-- HammerDepot$State takeBack (III)I
def f_X8_takeBack (h_count : Int32) (h_wears : Nat → Int32) (h_slots : Nat → Int32) (h_dueDays : Nat → Int32) (h_contents : Nat → Int32) (s_day : Int32) (s_coins : Int32) (s_lateCoins : Int32) (a0 : Int32) (a1 : Int32) (a2 : Int32) : Option (Int32 × (Nat → Int32) × (Nat → Int32) × (Nat → Int32) × Int32 × Int32) :=
  Option.bind (f_X2_has h_count a0) (fun u1 =>
    if u1 = 0 then
      some ((-2), h_wears, h_slots, h_contents, s_coins, s_lateCoins)
    else
      Option.bind (f_X9_isRack a2) (fun u3 =>
        if u3 = 0 then
          some ((-2), h_wears, h_slots, h_contents, s_coins, s_lateCoins)
        else
          if a1 < 0 then
            some ((-1), h_wears, h_slots, h_contents, s_coins, s_lateCoins)
          else
            if a1 ≤ 999 then
              Option.bind (f_X2_freePlaceOf h_contents a2) (fun u5 =>
                Option.bind (f_X2_isAway h_count h_slots a0) (fun u7 =>
                  if u7 = 0 then
                    some ((-3), h_wears, h_slots, h_contents, s_coins, s_lateCoins)
                  else
                    if u5 = (-1) then
                      some ((-3), h_wears, h_slots, h_contents, s_coins, s_lateCoins)
                    else
                      Option.bind (f_X2_wearOf h_count h_wears a0) (fun u9 =>
                        Option.bind (f_X2_dueDayOf h_count h_dueDays a0) (fun u11 =>
                          Option.bind (f_X2_setWear h_count h_wears a0 (jmin (100 : Int32) (u9 + (a1 / 10)))) (fun u13 =>
                            Option.bind (f_X2_setContent h_count h_slots h_contents a2 u5 a0) (fun u15 =>
                              some (jmin (100 : Int32) (u9 + (a1 / 10)), u13, u15.1, u15.2, s_coins + ((2 : Int32) * (jmax (0 : Int32) (s_day - u11))), s_lateCoins + ((2 : Int32) * (jmax (0 : Int32) (s_day - u11))))))))))
            else
              some ((-1), h_wears, h_slots, h_contents, s_coins, s_lateCoins)))
set_option maxHeartbeats 4000000 in
set_option maxRecDepth 100000 in
theorem k_X8_takeBack {l : Launch} {D : va_G} {t : Nat → ClassId} {ad : Nat → Nat} {o : Nat} (h_count : Int32) (h_pitches : Nat → Int32) (h_wears : Nat → Int32) (h_slots : Nat → Int32) (h_borrowers : Nat → Int32) (h_dueDays : Nat → Int32) (h_contents : Nat → Int32) (r_count : Int32) (r_nextId : Int32) (r_ids : Nat → Int32) (r_borrowers : Nat → Int32) (r_pitches : Nat → Int32) (r_tolerances : Nat → Int32) (r_firstDays : Nat → Int32) (r_lastDays : Nat → Int32) (b_count : Int32) (b_hammers : Nat → Int32) (b_borrowers : Nat → Int32) (b_firstDays : Nat → Int32) (b_lastDays : Nat → Int32) (s_day : Int32) (s_coins : Int32) (s_bookingCoins : Int32) (s_lateCoins : Int32) (s_faceCosts : Int32) (s_broken : Int32) (s_lent : Int32) (a0 : Int32) (a1 : Int32) (a2 : Int32) (u : Int32 × (Nat → Int32) × (Nat → Int32) × (Nat → Int32) × Int32 × Int32) (hf : f_X8_takeBack h_count h_wears h_slots h_dueDays h_contents s_day s_coins s_lateCoins a0 a1 a2 = some u) : cm l D (jT t) yX8_takeBack cX8_takeBack 7 (some FieldType.int) { frames := 3, cells := 0, slots := 0, locals := 64 } [.ref (ad o), .int a0, .int a1, .int a2] (wS t ad o h_count h_pitches h_wears h_slots h_borrowers h_dueDays h_contents r_count r_nextId r_ids r_borrowers r_pitches r_tolerances r_firstDays r_lastDays b_count b_hammers b_borrowers b_firstDays b_lastDays s_day s_coins s_bookingCoins s_lateCoins s_faceCosts s_broken s_lent) (fun v w => v = (some (.int u.1)) ∧ w = wS t ad o h_count h_pitches u.2.1 u.2.2.1 h_borrowers h_dueDays u.2.2.2.1 r_count r_nextId r_ids r_borrowers r_pitches r_tolerances r_firstDays r_lastDays b_count b_hammers b_borrowers b_firstDays b_lastDays s_day u.2.2.2.2.1 s_bookingCoins u.2.2.2.2.2 s_faceCosts s_broken s_lent) := by
  refine cm_of RX8 rfl (by decide +kernel) (Nat.le_of_ble_eq_true rfl) (fun X hX hE => ?_)
  change J X 0 0 (wS t ad o h_count h_pitches h_wears h_slots h_borrowers h_dueDays h_contents r_count r_nextId r_ids r_borrowers r_pitches r_tolerances r_firstDays r_lastDays b_count b_hammers b_borrowers b_firstDays b_lastDays s_day s_coins s_bookingCoins s_lateCoins s_faceCosts s_broken s_lent) 0 [(0, .ref (ad o)), (1, .int a0), (2, .int a1), (3, .int a2)] []
  unfold f_X8_takeBack at hf
  refine j_aload_n hX dX8_takeBack_0 rfl 0 rfl ?_
  refine j_get hX dX8_takeBack_1 inX8 0 q90 0 rfl rfl (by decide) rfl rfl ?_
  refine j_iload_n hX dX8_takeBack_4 rfl 1 rfl ?_
  obtain ⟨u1, h2, hf⟩ := jbind hf
  refine j_callV (st := []) hX (k_X2_has (l := l) (D := D) (t := t) (ad := ad) (o := o + 1) h_count h_pitches h_wears h_slots h_borrowers h_dueDays h_contents a0 u1 h2) q262 q263 q264 q3 q265 (n9 := 1) rfl ⟨by decide +kernel, by decide +kernel⟩ 0 rfl rfl rfl dX8_takeBack_5 (Nat.le_of_ble_eq_true rfl) ⟨Nat.le_refl _, Nat.le_refl _⟩ (frS_hammers t ad o r_count r_nextId r_ids r_borrowers r_pitches r_tolerances r_firstDays r_lastDays b_count b_hammers b_borrowers b_firstDays b_lastDays s_day s_coins s_bookingCoins s_lateCoins s_faceCosts s_broken s_lent) (frS_hammers_ok t ad o r_count r_nextId r_ids r_borrowers r_pitches r_tolerances r_firstDays r_lastDays b_count b_hammers b_borrowers b_firstDays b_lastDays s_day s_coins s_bookingCoins s_lateCoins s_faceCosts s_broken s_lent) rfl rfl (fun v w hvw => ?_)
  obtain ⟨rfl, rfl⟩ := hvw
  change J X 0 0 (wS t ad o h_count h_pitches h_wears h_slots h_borrowers h_dueDays h_contents r_count r_nextId r_ids r_borrowers r_pitches r_tolerances r_firstDays r_lastDays b_count b_hammers b_borrowers b_firstDays b_lastDays s_day s_coins s_bookingCoins s_lateCoins s_faceCosts s_broken s_lent) 8 [(0, .ref (ad o)), (1, .int a0), (2, .int a1), (3, .int a2)] [.int u1]
  refine j_if_eq hX 18 dX8_takeBack_8 (by decide) hf (fun c8 hf => ?_) (fun c8 hf => ?_)
  · refine j_bipush hX (-2) dX8_takeBack_18 (by decide) ?_
    cases hf
    exact j_iret hX hE dX8_takeBack_20 (Nat.le_refl _) (Nat.le_refl _) ⟨rfl, rfl⟩
  · refine j_iload_n hX dX8_takeBack_11 rfl 3 rfl ?_
    obtain ⟨u3, h4, hf⟩ := jbind hf
    refine j_callSN (st := []) hX (k_X9_isRack (l := l) (D := D) (t := t) (ad := ad)  a2 u3 h4) q618 q544 q1 q545 (n9 := 1) rfl ⟨by decide +kernel, by decide +kernel⟩ dX8_takeBack_12 (Nat.le_of_ble_eq_true rfl) ⟨Nat.le_refl _, Nat.le_refl _⟩ (fun w : va_W => w ++ (wS t ad o h_count h_pitches h_wears h_slots h_borrowers h_dueDays h_contents r_count r_nextId r_ids r_borrowers r_pitches r_tolerances r_firstDays r_lastDays b_count b_hammers b_borrowers b_firstDays b_lastDays s_day s_coins s_bookingCoins s_lateCoins s_faceCosts s_broken s_lent)) (jFr_r (wS t ad o h_count h_pitches h_wears h_slots h_borrowers h_dueDays h_contents r_count r_nextId r_ids r_borrowers r_pitches r_tolerances r_firstDays r_lastDays b_count b_hammers b_borrowers b_firstDays b_lastDays s_day s_coins s_bookingCoins s_lateCoins s_faceCosts s_broken s_lent)) rfl rfl (fun v w hvw => ?_)
    obtain ⟨rfl, rfl⟩ := hvw
    change J X 0 0 (wS t ad o h_count h_pitches h_wears h_slots h_borrowers h_dueDays h_contents r_count r_nextId r_ids r_borrowers r_pitches r_tolerances r_firstDays r_lastDays b_count b_hammers b_borrowers b_firstDays b_lastDays s_day s_coins s_bookingCoins s_lateCoins s_faceCosts s_broken s_lent) 15 [(0, .ref (ad o)), (1, .int a0), (2, .int a1), (3, .int a2)] [.int u3]
    refine j_if_ne hX 21 dX8_takeBack_15 (by decide) hf (fun c15 hf => ?_) (fun c15 hf => ?_)
    · refine j_iload_n hX dX8_takeBack_21 rfl 2 rfl ?_
      refine j_if_lt hX 32 dX8_takeBack_22 (by decide) hf (fun c22 hf => ?_) (fun c22 hf => ?_)
      · refine j_iconst hX (-1) dX8_takeBack_32 (by decide) ?_
        cases hf
        exact j_iret hX hE dX8_takeBack_33 (Nat.le_refl _) (Nat.le_refl _) ⟨rfl, rfl⟩
      · refine j_iload_n hX dX8_takeBack_25 rfl 2 rfl ?_
        refine j_sipush hX 999 dX8_takeBack_26 (by decide) ?_
        refine j_icmp_le hX 34 dX8_takeBack_29 (by decide) hf (fun c29 hf => ?_) (fun c29 hf => ?_)
        · refine j_aload_n hX dX8_takeBack_34 rfl 0 rfl ?_
          refine j_get hX dX8_takeBack_35 inX8 0 q90 0 rfl rfl (by decide) rfl rfl ?_
          refine j_iload_n hX dX8_takeBack_38 rfl 3 rfl ?_
          obtain ⟨u5, h6, hf⟩ := jbind hf
          refine j_callV (st := []) hX (k_X2_freePlaceOf (l := l) (D := D) (t := t) (ad := ad) (o := o + 1) h_count h_pitches h_wears h_slots h_borrowers h_dueDays h_contents a2 u5 h6) q619 q620 q621 q3 q622 (n9 := 1) rfl ⟨by decide +kernel, by decide +kernel⟩ 0 rfl rfl rfl dX8_takeBack_39 (Nat.le_of_ble_eq_true rfl) ⟨Nat.le_refl _, Nat.le_refl _⟩ (frS_hammers t ad o r_count r_nextId r_ids r_borrowers r_pitches r_tolerances r_firstDays r_lastDays b_count b_hammers b_borrowers b_firstDays b_lastDays s_day s_coins s_bookingCoins s_lateCoins s_faceCosts s_broken s_lent) (frS_hammers_ok t ad o r_count r_nextId r_ids r_borrowers r_pitches r_tolerances r_firstDays r_lastDays b_count b_hammers b_borrowers b_firstDays b_lastDays s_day s_coins s_bookingCoins s_lateCoins s_faceCosts s_broken s_lent) rfl rfl (fun v w hvw => ?_)
          obtain ⟨rfl, rfl⟩ := hvw
          change J X 0 0 (wS t ad o h_count h_pitches h_wears h_slots h_borrowers h_dueDays h_contents r_count r_nextId r_ids r_borrowers r_pitches r_tolerances r_firstDays r_lastDays b_count b_hammers b_borrowers b_firstDays b_lastDays s_day s_coins s_bookingCoins s_lateCoins s_faceCosts s_broken s_lent) 42 [(0, .ref (ad o)), (1, .int a0), (2, .int a1), (3, .int a2)] [.int u5]
          refine j_istore hX [(4, .int u5), (0, .ref (ad o)), (1, .int a0), (2, .int a1), (3, .int a2)] dX8_takeBack_42 (by decide) rfl ?_
          refine j_aload_n hX dX8_takeBack_44 rfl 1 rfl ?_
          refine j_get hX dX8_takeBack_45 inX8 0 q90 0 rfl rfl (by decide) rfl rfl ?_
          refine j_iload_n hX dX8_takeBack_48 rfl 2 rfl ?_
          obtain ⟨u7, h8, hf⟩ := jbind hf
          refine j_callV (st := []) hX (k_X2_isAway (l := l) (D := D) (t := t) (ad := ad) (o := o + 1) h_count h_pitches h_wears h_slots h_borrowers h_dueDays h_contents a0 u7 h8) q286 q287 q288 q3 q289 (n9 := 1) rfl ⟨by decide +kernel, by decide +kernel⟩ 0 rfl rfl rfl dX8_takeBack_49 (Nat.le_of_ble_eq_true rfl) ⟨Nat.le_refl _, Nat.le_refl _⟩ (frS_hammers t ad o r_count r_nextId r_ids r_borrowers r_pitches r_tolerances r_firstDays r_lastDays b_count b_hammers b_borrowers b_firstDays b_lastDays s_day s_coins s_bookingCoins s_lateCoins s_faceCosts s_broken s_lent) (frS_hammers_ok t ad o r_count r_nextId r_ids r_borrowers r_pitches r_tolerances r_firstDays r_lastDays b_count b_hammers b_borrowers b_firstDays b_lastDays s_day s_coins s_bookingCoins s_lateCoins s_faceCosts s_broken s_lent) rfl rfl (fun v w hvw => ?_)
          obtain ⟨rfl, rfl⟩ := hvw
          change J X 0 0 (wS t ad o h_count h_pitches h_wears h_slots h_borrowers h_dueDays h_contents r_count r_nextId r_ids r_borrowers r_pitches r_tolerances r_firstDays r_lastDays b_count b_hammers b_borrowers b_firstDays b_lastDays s_day s_coins s_bookingCoins s_lateCoins s_faceCosts s_broken s_lent) 52 [(4, .int u5), (0, .ref (ad o)), (1, .int a0), (2, .int a1), (3, .int a2)] [.int u7]
          refine j_if_eq hX 61 dX8_takeBack_52 (by decide) hf (fun c52 hf => ?_) (fun c52 hf => ?_)
          · refine j_bipush hX (-3) dX8_takeBack_61 (by decide) ?_
            cases hf
            exact j_iret hX hE dX8_takeBack_63 (Nat.le_refl _) (Nat.le_refl _) ⟨rfl, rfl⟩
          · refine j_iload hX dX8_takeBack_55 0 rfl ?_
            refine j_iconst hX (-1) dX8_takeBack_57 (by decide) ?_
            refine j_icmp_ne hX 64 dX8_takeBack_58 (by decide) hf (fun c58 hf => ?_) (fun c58 hf => ?_)
            · refine j_bipush hX 100 dX8_takeBack_64 (by decide) ?_
              refine j_aload_n hX dX8_takeBack_66 rfl 1 rfl ?_
              refine j_get hX dX8_takeBack_67 inX8 0 q90 0 rfl rfl (by decide) rfl rfl ?_
              refine j_iload_n hX dX8_takeBack_70 rfl 2 rfl ?_
              obtain ⟨u9, h10, hf⟩ := jbind hf
              refine j_callV (st := [.int 100]) hX (k_X2_wearOf (l := l) (D := D) (t := t) (ad := ad) (o := o + 1) h_count h_pitches h_wears h_slots h_borrowers h_dueDays h_contents a0 u9 h10) q282 q283 q284 q3 q285 (n9 := 1) rfl ⟨by decide +kernel, by decide +kernel⟩ 0 rfl rfl rfl dX8_takeBack_71 (Nat.le_of_ble_eq_true rfl) ⟨Nat.le_refl _, Nat.le_refl _⟩ (frS_hammers t ad o r_count r_nextId r_ids r_borrowers r_pitches r_tolerances r_firstDays r_lastDays b_count b_hammers b_borrowers b_firstDays b_lastDays s_day s_coins s_bookingCoins s_lateCoins s_faceCosts s_broken s_lent) (frS_hammers_ok t ad o r_count r_nextId r_ids r_borrowers r_pitches r_tolerances r_firstDays r_lastDays b_count b_hammers b_borrowers b_firstDays b_lastDays s_day s_coins s_bookingCoins s_lateCoins s_faceCosts s_broken s_lent) rfl rfl (fun v w hvw => ?_)
              obtain ⟨rfl, rfl⟩ := hvw
              change J X 0 0 (wS t ad o h_count h_pitches h_wears h_slots h_borrowers h_dueDays h_contents r_count r_nextId r_ids r_borrowers r_pitches r_tolerances r_firstDays r_lastDays b_count b_hammers b_borrowers b_firstDays b_lastDays s_day s_coins s_bookingCoins s_lateCoins s_faceCosts s_broken s_lent) 74 [(4, .int u5), (0, .ref (ad o)), (1, .int a0), (2, .int a1), (3, .int a2)] [.int u9, .int 100]
              refine j_iload_n hX dX8_takeBack_74 rfl 3 rfl ?_
              refine j_bipush hX 10 dX8_takeBack_75 (by decide) ?_
              refine j_idiv hX dX8_takeBack_77 (by decide) ?_
              refine j_iadd hX dX8_takeBack_78 ?_
              refine j_mmin hX q740 dX8_takeBack_79 (Nat.le_of_ble_eq_true rfl) (by decide) ⟨Nat.le_refl _, Nat.le_refl _⟩ ?_
              refine j_istore hX [(5, .int (jmin (100 : Int32) (u9 + (a1 / 10)))), (4, .int u5), (0, .ref (ad o)), (1, .int a0), (2, .int a1), (3, .int a2)] dX8_takeBack_82 (by decide) rfl ?_
              refine j_iconst hX 2 dX8_takeBack_84 (by decide) ?_
              refine j_iconst hX 0 dX8_takeBack_85 (by decide) ?_
              refine j_aload_n hX dX8_takeBack_86 rfl 2 rfl ?_
              refine j_get hX dX8_takeBack_87 inX8 3 q98 0 rfl rfl (by decide) rfl rfl ?_
              refine j_aload_n hX dX8_takeBack_90 rfl 2 rfl ?_
              refine j_get hX dX8_takeBack_91 inX8 0 q90 0 rfl rfl (by decide) rfl rfl ?_
              refine j_iload_n hX dX8_takeBack_94 rfl 3 rfl ?_
              obtain ⟨u11, h12, hf⟩ := jbind hf
              refine j_callV (st := [.int s_day, .int 0, .int 2]) hX (k_X2_dueDayOf (l := l) (D := D) (t := t) (ad := ad) (o := o + 1) h_count h_pitches h_wears h_slots h_borrowers h_dueDays h_contents a0 u11 h12) q290 q291 q292 q3 q293 (n9 := 1) rfl ⟨by decide +kernel, by decide +kernel⟩ 0 rfl rfl rfl dX8_takeBack_95 (Nat.le_of_ble_eq_true rfl) ⟨Nat.le_refl _, Nat.le_refl _⟩ (frS_hammers t ad o r_count r_nextId r_ids r_borrowers r_pitches r_tolerances r_firstDays r_lastDays b_count b_hammers b_borrowers b_firstDays b_lastDays s_day s_coins s_bookingCoins s_lateCoins s_faceCosts s_broken s_lent) (frS_hammers_ok t ad o r_count r_nextId r_ids r_borrowers r_pitches r_tolerances r_firstDays r_lastDays b_count b_hammers b_borrowers b_firstDays b_lastDays s_day s_coins s_bookingCoins s_lateCoins s_faceCosts s_broken s_lent) rfl rfl (fun v w hvw => ?_)
              obtain ⟨rfl, rfl⟩ := hvw
              change J X 0 0 (wS t ad o h_count h_pitches h_wears h_slots h_borrowers h_dueDays h_contents r_count r_nextId r_ids r_borrowers r_pitches r_tolerances r_firstDays r_lastDays b_count b_hammers b_borrowers b_firstDays b_lastDays s_day s_coins s_bookingCoins s_lateCoins s_faceCosts s_broken s_lent) 98 [(5, .int (jmin (100 : Int32) (u9 + (a1 / 10)))), (4, .int u5), (0, .ref (ad o)), (1, .int a0), (2, .int a1), (3, .int a2)] [.int u11, .int s_day, .int 0, .int 2]
              refine j_isub hX dX8_takeBack_98 ?_
              refine j_mmax hX q741 dX8_takeBack_99 (Nat.le_of_ble_eq_true rfl) (by decide) ⟨Nat.le_refl _, Nat.le_refl _⟩ ?_
              refine j_imul hX dX8_takeBack_102 ?_
              refine j_istore hX [(6, .int ((2 : Int32) * (jmax (0 : Int32) (s_day - u11)))), (5, .int (jmin (100 : Int32) (u9 + (a1 / 10)))), (4, .int u5), (0, .ref (ad o)), (1, .int a0), (2, .int a1), (3, .int a2)] dX8_takeBack_103 (by decide) rfl ?_
              refine j_aload_n hX dX8_takeBack_105 rfl 3 rfl ?_
              refine j_get hX dX8_takeBack_106 inX8 0 q90 0 rfl rfl (by decide) rfl rfl ?_
              refine j_iload_n hX dX8_takeBack_109 rfl 4 rfl ?_
              refine j_iload hX dX8_takeBack_110 1 rfl ?_
              obtain ⟨u13, h14, hf⟩ := jbind hf
              refine j_callV (st := []) hX (k_X2_setWear (l := l) (D := D) (t := t) (ad := ad) (o := o + 1) h_count h_pitches h_wears h_slots h_borrowers h_dueDays h_contents a0 (jmin (100 : Int32) (u9 + (a1 / 10))) u13 h14) q742 q743 q744 q3 q745 (n9 := 2) rfl ⟨by decide +kernel, by decide +kernel⟩ 0 rfl rfl rfl dX8_takeBack_112 (Nat.le_of_ble_eq_true rfl) ⟨Nat.le_refl _, Nat.le_refl _⟩ (frS_hammers t ad o r_count r_nextId r_ids r_borrowers r_pitches r_tolerances r_firstDays r_lastDays b_count b_hammers b_borrowers b_firstDays b_lastDays s_day s_coins s_bookingCoins s_lateCoins s_faceCosts s_broken s_lent) (frS_hammers_ok t ad o r_count r_nextId r_ids r_borrowers r_pitches r_tolerances r_firstDays r_lastDays b_count b_hammers b_borrowers b_firstDays b_lastDays s_day s_coins s_bookingCoins s_lateCoins s_faceCosts s_broken s_lent) rfl rfl (fun v w hvw => ?_)
              obtain ⟨rfl, rfl⟩ := hvw
              change J X 0 0 (wS t ad o h_count h_pitches u13 h_slots h_borrowers h_dueDays h_contents r_count r_nextId r_ids r_borrowers r_pitches r_tolerances r_firstDays r_lastDays b_count b_hammers b_borrowers b_firstDays b_lastDays s_day s_coins s_bookingCoins s_lateCoins s_faceCosts s_broken s_lent) 115 [(6, .int ((2 : Int32) * (jmax (0 : Int32) (s_day - u11)))), (5, .int (jmin (100 : Int32) (u9 + (a1 / 10)))), (4, .int u5), (0, .ref (ad o)), (1, .int a0), (2, .int a1), (3, .int a2)] []
              refine j_aload_n hX dX8_takeBack_115 rfl 3 rfl ?_
              refine j_get hX dX8_takeBack_116 inX8 0 q90 0 rfl rfl (by decide) rfl rfl ?_
              refine j_iload_n hX dX8_takeBack_119 rfl 6 rfl ?_
              refine j_iload hX dX8_takeBack_120 2 rfl ?_
              refine j_iload_n hX dX8_takeBack_122 rfl 4 rfl ?_
              obtain ⟨u15, h16, hf⟩ := jbind hf
              refine j_callV (st := []) hX (k_X2_setContent (l := l) (D := D) (t := t) (ad := ad) (o := o + 1) h_count h_pitches u13 h_slots h_borrowers h_dueDays h_contents a2 u5 a0 u15 h16) q633 q634 q635 q3 q636 (n9 := 3) rfl ⟨by decide +kernel, by decide +kernel⟩ 0 rfl rfl rfl dX8_takeBack_123 (Nat.le_of_ble_eq_true rfl) ⟨Nat.le_refl _, Nat.le_refl _⟩ (frS_hammers t ad o r_count r_nextId r_ids r_borrowers r_pitches r_tolerances r_firstDays r_lastDays b_count b_hammers b_borrowers b_firstDays b_lastDays s_day s_coins s_bookingCoins s_lateCoins s_faceCosts s_broken s_lent) (frS_hammers_ok t ad o r_count r_nextId r_ids r_borrowers r_pitches r_tolerances r_firstDays r_lastDays b_count b_hammers b_borrowers b_firstDays b_lastDays s_day s_coins s_bookingCoins s_lateCoins s_faceCosts s_broken s_lent) rfl rfl (fun v w hvw => ?_)
              obtain ⟨rfl, rfl⟩ := hvw
              change J X 0 0 (wS t ad o h_count h_pitches u13 u15.1 h_borrowers h_dueDays u15.2 r_count r_nextId r_ids r_borrowers r_pitches r_tolerances r_firstDays r_lastDays b_count b_hammers b_borrowers b_firstDays b_lastDays s_day s_coins s_bookingCoins s_lateCoins s_faceCosts s_broken s_lent) 126 [(6, .int ((2 : Int32) * (jmax (0 : Int32) (s_day - u11)))), (5, .int (jmin (100 : Int32) (u9 + (a1 / 10)))), (4, .int u5), (0, .ref (ad o)), (1, .int a0), (2, .int a1), (3, .int a2)] []
              refine j_aload_n hX dX8_takeBack_126 rfl 3 rfl ?_
              refine j_dup hX dX8_takeBack_127 rfl ?_
              refine j_get hX dX8_takeBack_128 inX8 4 q100 0 rfl rfl (by decide) rfl rfl ?_
              refine j_iload hX dX8_takeBack_131 0 rfl ?_
              refine j_iadd hX dX8_takeBack_133 ?_
              refine j_put hX (wS t ad o h_count h_pitches u13 u15.1 h_borrowers h_dueDays u15.2 r_count r_nextId r_ids r_borrowers r_pitches r_tolerances r_firstDays r_lastDays b_count b_hammers b_borrowers b_firstDays b_lastDays s_day (s_coins + ((2 : Int32) * (jmax (0 : Int32) (s_day - u11)))) s_bookingCoins s_lateCoins s_faceCosts s_broken s_lent) tyX8 dX8_takeBack_134 inX8 tyX8_ok nmX8 4 q100 0 rfl rfl (by decide) rfl rfl rfl rfl rfl (Nat.le_of_ble_eq_true rfl) rfl ?_
              refine j_aload_n hX dX8_takeBack_137 rfl 3 rfl ?_
              refine j_dup hX dX8_takeBack_138 rfl ?_
              refine j_get hX dX8_takeBack_139 inX8 6 q104 0 rfl rfl (by decide) rfl rfl ?_
              refine j_iload hX dX8_takeBack_142 0 rfl ?_
              refine j_iadd hX dX8_takeBack_144 ?_
              refine j_put hX (wS t ad o h_count h_pitches u13 u15.1 h_borrowers h_dueDays u15.2 r_count r_nextId r_ids r_borrowers r_pitches r_tolerances r_firstDays r_lastDays b_count b_hammers b_borrowers b_firstDays b_lastDays s_day (s_coins + ((2 : Int32) * (jmax (0 : Int32) (s_day - u11)))) s_bookingCoins (s_lateCoins + ((2 : Int32) * (jmax (0 : Int32) (s_day - u11)))) s_faceCosts s_broken s_lent) tyX8 dX8_takeBack_145 inX8 tyX8_ok nmX8 6 q104 0 rfl rfl (by decide) rfl rfl rfl rfl rfl (Nat.le_of_ble_eq_true rfl) rfl ?_
              refine j_iload hX dX8_takeBack_148 1 rfl ?_
              cases hf
              exact j_iret hX hE dX8_takeBack_150 (Nat.le_refl _) (Nat.le_refl _) ⟨rfl, rfl⟩
            · refine j_bipush hX (-3) dX8_takeBack_61 (by decide) ?_
              cases hf
              exact j_iret hX hE dX8_takeBack_63 (Nat.le_refl _) (Nat.le_refl _) ⟨rfl, rfl⟩
        · refine j_iconst hX (-1) dX8_takeBack_32 (by decide) ?_
          cases hf
          exact j_iret hX hE dX8_takeBack_33 (Nat.le_refl _) (Nat.le_refl _) ⟨rfl, rfl⟩
    · refine j_bipush hX (-2) dX8_takeBack_18 (by decide) ?_
      cases hf
      exact j_iret hX hE dX8_takeBack_20 (Nat.le_refl _) (Nat.le_refl _) ⟨rfl, rfl⟩
-- HammerDepot$State renew (I)I
def f_X8_renew (h_count : Int32) (h_wears : Nat → Int32) (h_slots : Nat → Int32) (s_coins : Int32) (s_faceCosts : Int32) (a0 : Int32) : Option (Int32 × (Nat → Int32) × Int32 × Int32) :=
  Option.bind (f_X2_has h_count a0) (fun u1 =>
    if u1 = 0 then
      some ((-2), h_wears, s_coins, s_faceCosts)
    else
      Option.bind (f_X2_isAway h_count h_slots a0) (fun u3 =>
        if u3 = 0 then
          Option.bind (f_X2_wearOf h_count h_wears a0) (fun u5 =>
            if ((u5 + 4) / 5) ≤ s_coins then
              Option.bind (f_X2_setWear h_count h_wears a0 0) (fun u7 =>
                some ((u5 + 4) / 5, u7, s_coins - ((u5 + 4) / 5), s_faceCosts + ((u5 + 4) / 5)))
            else
              some ((-5), h_wears, s_coins, s_faceCosts))
        else
          some ((-3), h_wears, s_coins, s_faceCosts)))
set_option maxHeartbeats 4000000 in
set_option maxRecDepth 100000 in
theorem k_X8_renew {l : Launch} {D : va_G} {t : Nat → ClassId} {ad : Nat → Nat} {o : Nat} (h_count : Int32) (h_pitches : Nat → Int32) (h_wears : Nat → Int32) (h_slots : Nat → Int32) (h_borrowers : Nat → Int32) (h_dueDays : Nat → Int32) (h_contents : Nat → Int32) (r_count : Int32) (r_nextId : Int32) (r_ids : Nat → Int32) (r_borrowers : Nat → Int32) (r_pitches : Nat → Int32) (r_tolerances : Nat → Int32) (r_firstDays : Nat → Int32) (r_lastDays : Nat → Int32) (b_count : Int32) (b_hammers : Nat → Int32) (b_borrowers : Nat → Int32) (b_firstDays : Nat → Int32) (b_lastDays : Nat → Int32) (s_day : Int32) (s_coins : Int32) (s_bookingCoins : Int32) (s_lateCoins : Int32) (s_faceCosts : Int32) (s_broken : Int32) (s_lent : Int32) (a0 : Int32) (u : Int32 × (Nat → Int32) × Int32 × Int32) (hf : f_X8_renew h_count h_wears h_slots s_coins s_faceCosts a0 = some u) : cm l D (jT t) yX8_renew cX8_renew 3 (some FieldType.int) { frames := 2, cells := 0, slots := 0, locals := 43 } [.ref (ad o), .int a0] (wS t ad o h_count h_pitches h_wears h_slots h_borrowers h_dueDays h_contents r_count r_nextId r_ids r_borrowers r_pitches r_tolerances r_firstDays r_lastDays b_count b_hammers b_borrowers b_firstDays b_lastDays s_day s_coins s_bookingCoins s_lateCoins s_faceCosts s_broken s_lent) (fun v w => v = (some (.int u.1)) ∧ w = wS t ad o h_count h_pitches u.2.1 h_slots h_borrowers h_dueDays h_contents r_count r_nextId r_ids r_borrowers r_pitches r_tolerances r_firstDays r_lastDays b_count b_hammers b_borrowers b_firstDays b_lastDays s_day u.2.2.1 s_bookingCoins s_lateCoins u.2.2.2 s_broken s_lent) := by
  refine cm_of RX8 rfl (by decide +kernel) (Nat.le_of_ble_eq_true rfl) (fun X hX hE => ?_)
  change J X 0 0 (wS t ad o h_count h_pitches h_wears h_slots h_borrowers h_dueDays h_contents r_count r_nextId r_ids r_borrowers r_pitches r_tolerances r_firstDays r_lastDays b_count b_hammers b_borrowers b_firstDays b_lastDays s_day s_coins s_bookingCoins s_lateCoins s_faceCosts s_broken s_lent) 0 [(0, .ref (ad o)), (1, .int a0)] []
  unfold f_X8_renew at hf
  refine j_aload_n hX dX8_renew_0 rfl 0 rfl ?_
  refine j_get hX dX8_renew_1 inX8 0 q90 0 rfl rfl (by decide) rfl rfl ?_
  refine j_iload_n hX dX8_renew_4 rfl 1 rfl ?_
  obtain ⟨u1, h2, hf⟩ := jbind hf
  refine j_callV (st := []) hX (k_X2_has (l := l) (D := D) (t := t) (ad := ad) (o := o + 1) h_count h_pitches h_wears h_slots h_borrowers h_dueDays h_contents a0 u1 h2) q262 q263 q264 q3 q265 (n9 := 1) rfl ⟨by decide +kernel, by decide +kernel⟩ 0 rfl rfl rfl dX8_renew_5 (Nat.le_of_ble_eq_true rfl) ⟨Nat.le_refl _, Nat.le_refl _⟩ (frS_hammers t ad o r_count r_nextId r_ids r_borrowers r_pitches r_tolerances r_firstDays r_lastDays b_count b_hammers b_borrowers b_firstDays b_lastDays s_day s_coins s_bookingCoins s_lateCoins s_faceCosts s_broken s_lent) (frS_hammers_ok t ad o r_count r_nextId r_ids r_borrowers r_pitches r_tolerances r_firstDays r_lastDays b_count b_hammers b_borrowers b_firstDays b_lastDays s_day s_coins s_bookingCoins s_lateCoins s_faceCosts s_broken s_lent) rfl rfl (fun v w hvw => ?_)
  obtain ⟨rfl, rfl⟩ := hvw
  change J X 0 0 (wS t ad o h_count h_pitches h_wears h_slots h_borrowers h_dueDays h_contents r_count r_nextId r_ids r_borrowers r_pitches r_tolerances r_firstDays r_lastDays b_count b_hammers b_borrowers b_firstDays b_lastDays s_day s_coins s_bookingCoins s_lateCoins s_faceCosts s_broken s_lent) 8 [(0, .ref (ad o)), (1, .int a0)] [.int u1]
  refine j_if_ne hX 14 dX8_renew_8 (by decide) hf (fun c8 hf => ?_) (fun c8 hf => ?_)
  · refine j_aload_n hX dX8_renew_14 rfl 0 rfl ?_
    refine j_get hX dX8_renew_15 inX8 0 q90 0 rfl rfl (by decide) rfl rfl ?_
    refine j_iload_n hX dX8_renew_18 rfl 1 rfl ?_
    obtain ⟨u3, h4, hf⟩ := jbind hf
    refine j_callV (st := []) hX (k_X2_isAway (l := l) (D := D) (t := t) (ad := ad) (o := o + 1) h_count h_pitches h_wears h_slots h_borrowers h_dueDays h_contents a0 u3 h4) q286 q287 q288 q3 q289 (n9 := 1) rfl ⟨by decide +kernel, by decide +kernel⟩ 0 rfl rfl rfl dX8_renew_19 (Nat.le_of_ble_eq_true rfl) ⟨Nat.le_refl _, Nat.le_refl _⟩ (frS_hammers t ad o r_count r_nextId r_ids r_borrowers r_pitches r_tolerances r_firstDays r_lastDays b_count b_hammers b_borrowers b_firstDays b_lastDays s_day s_coins s_bookingCoins s_lateCoins s_faceCosts s_broken s_lent) (frS_hammers_ok t ad o r_count r_nextId r_ids r_borrowers r_pitches r_tolerances r_firstDays r_lastDays b_count b_hammers b_borrowers b_firstDays b_lastDays s_day s_coins s_bookingCoins s_lateCoins s_faceCosts s_broken s_lent) rfl rfl (fun v w hvw => ?_)
    obtain ⟨rfl, rfl⟩ := hvw
    change J X 0 0 (wS t ad o h_count h_pitches h_wears h_slots h_borrowers h_dueDays h_contents r_count r_nextId r_ids r_borrowers r_pitches r_tolerances r_firstDays r_lastDays b_count b_hammers b_borrowers b_firstDays b_lastDays s_day s_coins s_bookingCoins s_lateCoins s_faceCosts s_broken s_lent) 22 [(0, .ref (ad o)), (1, .int a0)] [.int u3]
    refine j_if_eq hX 28 dX8_renew_22 (by decide) hf (fun c22 hf => ?_) (fun c22 hf => ?_)
    · refine j_aload_n hX dX8_renew_28 rfl 0 rfl ?_
      refine j_get hX dX8_renew_29 inX8 0 q90 0 rfl rfl (by decide) rfl rfl ?_
      refine j_iload_n hX dX8_renew_32 rfl 1 rfl ?_
      obtain ⟨u5, h6, hf⟩ := jbind hf
      refine j_callV (st := []) hX (k_X2_wearOf (l := l) (D := D) (t := t) (ad := ad) (o := o + 1) h_count h_pitches h_wears h_slots h_borrowers h_dueDays h_contents a0 u5 h6) q282 q283 q284 q3 q285 (n9 := 1) rfl ⟨by decide +kernel, by decide +kernel⟩ 0 rfl rfl rfl dX8_renew_33 (Nat.le_of_ble_eq_true rfl) ⟨Nat.le_refl _, Nat.le_refl _⟩ (frS_hammers t ad o r_count r_nextId r_ids r_borrowers r_pitches r_tolerances r_firstDays r_lastDays b_count b_hammers b_borrowers b_firstDays b_lastDays s_day s_coins s_bookingCoins s_lateCoins s_faceCosts s_broken s_lent) (frS_hammers_ok t ad o r_count r_nextId r_ids r_borrowers r_pitches r_tolerances r_firstDays r_lastDays b_count b_hammers b_borrowers b_firstDays b_lastDays s_day s_coins s_bookingCoins s_lateCoins s_faceCosts s_broken s_lent) rfl rfl (fun v w hvw => ?_)
      obtain ⟨rfl, rfl⟩ := hvw
      change J X 0 0 (wS t ad o h_count h_pitches h_wears h_slots h_borrowers h_dueDays h_contents r_count r_nextId r_ids r_borrowers r_pitches r_tolerances r_firstDays r_lastDays b_count b_hammers b_borrowers b_firstDays b_lastDays s_day s_coins s_bookingCoins s_lateCoins s_faceCosts s_broken s_lent) 36 [(0, .ref (ad o)), (1, .int a0)] [.int u5]
      refine j_iconst hX 4 dX8_renew_36 (by decide) ?_
      refine j_iadd hX dX8_renew_37 ?_
      refine j_iconst hX 5 dX8_renew_38 (by decide) ?_
      refine j_idiv hX dX8_renew_39 (by decide) ?_
      refine j_istore_n hX [(2, .int ((u5 + 4) / 5)), (0, .ref (ad o)), (1, .int a0)] dX8_renew_40 rfl (by decide) rfl ?_
      refine j_aload_n hX dX8_renew_41 rfl 1 rfl ?_
      refine j_get hX dX8_renew_42 inX8 4 q100 0 rfl rfl (by decide) rfl rfl ?_
      refine j_iload_n hX dX8_renew_45 rfl 0 rfl ?_
      refine j_icmp_ge hX 52 dX8_renew_46 (by decide) hf (fun c46 hf => ?_) (fun c46 hf => ?_)
      · refine j_aload_n hX dX8_renew_52 rfl 1 rfl ?_
        refine j_get hX dX8_renew_53 inX8 0 q90 0 rfl rfl (by decide) rfl rfl ?_
        refine j_iload_n hX dX8_renew_56 rfl 2 rfl ?_
        refine j_iconst hX 0 dX8_renew_57 (by decide) ?_
        obtain ⟨u7, h8, hf⟩ := jbind hf
        refine j_callV (st := []) hX (k_X2_setWear (l := l) (D := D) (t := t) (ad := ad) (o := o + 1) h_count h_pitches h_wears h_slots h_borrowers h_dueDays h_contents a0 0 u7 h8) q742 q743 q744 q3 q745 (n9 := 2) rfl ⟨by decide +kernel, by decide +kernel⟩ 0 rfl rfl rfl dX8_renew_58 (Nat.le_of_ble_eq_true rfl) ⟨Nat.le_refl _, Nat.le_refl _⟩ (frS_hammers t ad o r_count r_nextId r_ids r_borrowers r_pitches r_tolerances r_firstDays r_lastDays b_count b_hammers b_borrowers b_firstDays b_lastDays s_day s_coins s_bookingCoins s_lateCoins s_faceCosts s_broken s_lent) (frS_hammers_ok t ad o r_count r_nextId r_ids r_borrowers r_pitches r_tolerances r_firstDays r_lastDays b_count b_hammers b_borrowers b_firstDays b_lastDays s_day s_coins s_bookingCoins s_lateCoins s_faceCosts s_broken s_lent) rfl rfl (fun v w hvw => ?_)
        obtain ⟨rfl, rfl⟩ := hvw
        change J X 0 0 (wS t ad o h_count h_pitches u7 h_slots h_borrowers h_dueDays h_contents r_count r_nextId r_ids r_borrowers r_pitches r_tolerances r_firstDays r_lastDays b_count b_hammers b_borrowers b_firstDays b_lastDays s_day s_coins s_bookingCoins s_lateCoins s_faceCosts s_broken s_lent) 61 [(2, .int ((u5 + 4) / 5)), (0, .ref (ad o)), (1, .int a0)] []
        refine j_aload_n hX dX8_renew_61 rfl 1 rfl ?_
        refine j_dup hX dX8_renew_62 rfl ?_
        refine j_get hX dX8_renew_63 inX8 4 q100 0 rfl rfl (by decide) rfl rfl ?_
        refine j_iload_n hX dX8_renew_66 rfl 0 rfl ?_
        refine j_isub hX dX8_renew_67 ?_
        refine j_put hX (wS t ad o h_count h_pitches u7 h_slots h_borrowers h_dueDays h_contents r_count r_nextId r_ids r_borrowers r_pitches r_tolerances r_firstDays r_lastDays b_count b_hammers b_borrowers b_firstDays b_lastDays s_day (s_coins - ((u5 + 4) / 5)) s_bookingCoins s_lateCoins s_faceCosts s_broken s_lent) tyX8 dX8_renew_68 inX8 tyX8_ok nmX8 4 q100 0 rfl rfl (by decide) rfl rfl rfl rfl rfl (Nat.le_of_ble_eq_true rfl) rfl ?_
        refine j_aload_n hX dX8_renew_71 rfl 1 rfl ?_
        refine j_dup hX dX8_renew_72 rfl ?_
        refine j_get hX dX8_renew_73 inX8 7 q106 0 rfl rfl (by decide) rfl rfl ?_
        refine j_iload_n hX dX8_renew_76 rfl 0 rfl ?_
        refine j_iadd hX dX8_renew_77 ?_
        refine j_put hX (wS t ad o h_count h_pitches u7 h_slots h_borrowers h_dueDays h_contents r_count r_nextId r_ids r_borrowers r_pitches r_tolerances r_firstDays r_lastDays b_count b_hammers b_borrowers b_firstDays b_lastDays s_day (s_coins - ((u5 + 4) / 5)) s_bookingCoins s_lateCoins (s_faceCosts + ((u5 + 4) / 5)) s_broken s_lent) tyX8 dX8_renew_78 inX8 tyX8_ok nmX8 7 q106 0 rfl rfl (by decide) rfl rfl rfl rfl rfl (Nat.le_of_ble_eq_true rfl) rfl ?_
        refine j_iload_n hX dX8_renew_81 rfl 0 rfl ?_
        cases hf
        exact j_iret hX hE dX8_renew_82 (Nat.le_refl _) (Nat.le_refl _) ⟨rfl, rfl⟩
      · refine j_bipush hX (-5) dX8_renew_49 (by decide) ?_
        cases hf
        exact j_iret hX hE dX8_renew_51 (Nat.le_refl _) (Nat.le_refl _) ⟨rfl, rfl⟩
    · refine j_bipush hX (-3) dX8_renew_25 (by decide) ?_
      cases hf
      exact j_iret hX hE dX8_renew_27 (Nat.le_refl _) (Nat.le_refl _) ⟨rfl, rfl⟩
  · refine j_bipush hX (-2) dX8_renew_11 (by decide) ?_
    cases hf
    exact j_iret hX hE dX8_renew_13 (Nat.le_refl _) (Nat.le_refl _) ⟨rfl, rfl⟩
-- HammerDepot$State openBookings ()V
def f_X8_openBookings_L8 (h_count : Int32) (s_day : Int32) : Nat → Int32 → (Nat → Int32) → (Nat → Int32) → (Nat → Int32) → (Nat → Int32) → Int32 → (Nat → Int32) → (Nat → Int32) → (Nat → Int32) → (Nat → Int32) → Int32 → Int32 → Option (((Nat → Int32) × (Nat → Int32) × (Nat → Int32) × (Nat → Int32) × Int32 × (Nat → Int32) × (Nat → Int32) × (Nat → Int32) × (Nat → Int32) × Int32 × Int32) ⊕ (Int32 × (Nat → Int32) × (Nat → Int32) × (Nat → Int32) × (Nat → Int32) × Int32 × (Nat → Int32) × (Nat → Int32) × (Nat → Int32) × (Nat → Int32) × Int32 × Int32))
  | 0, _, _, _, _, _, _, _, _, _, _, _, _ => none
  | jn + 1, x1, h_slots, h_borrowers, h_dueDays, h_contents, b_count, b_hammers, b_borrowers, b_firstDays, b_lastDays, s_broken, s_lent =>
    if x1 ≤ 0 then
      some (.inr (x1, h_slots, h_borrowers, h_dueDays, h_contents, b_count, b_hammers, b_borrowers, b_firstDays, b_lastDays, s_broken, s_lent))
    else
      Option.bind (f_X0_beginningOn b_count b_firstDays s_day) (fun u3 =>
        if u3 = (-1) then
          some (.inl (h_slots, h_borrowers, h_dueDays, h_contents, b_count, b_hammers, b_borrowers, b_firstDays, b_lastDays, s_broken, s_lent))
        else
          Option.bind (f_X0_hammerOf b_count b_hammers u3) (fun u5 =>
            Option.bind (f_X2_isAway h_count h_slots u5) (fun u7 =>
              if u7 = 0 then
                Option.bind (f_X0_borrowerOf b_count b_borrowers u3) (fun u9 =>
                  Option.bind (f_X0_lastDayOf b_count b_lastDays u3) (fun u11 =>
                    Option.bind (f_X2_lend h_count h_slots h_borrowers h_dueDays h_contents u5 u9 u11) (fun u13 =>
                      Option.bind (f_X0_remove b_count b_hammers b_borrowers b_firstDays b_lastDays u3) (fun u15 =>
                        f_X8_openBookings_L8 h_count s_day jn (x1 + (-1)) u13.1 u13.2.1 u13.2.2.1 u13.2.2.2 u15.1 u15.2.1 u15.2.2.1 u15.2.2.2.1 u15.2.2.2.2 s_broken (s_lent + 1)))))
              else
                Option.bind (f_X0_remove b_count b_hammers b_borrowers b_firstDays b_lastDays u3) (fun u17 =>
                  f_X8_openBookings_L8 h_count s_day jn (x1 + (-1)) h_slots h_borrowers h_dueDays h_contents u17.1 u17.2.1 u17.2.2.1 u17.2.2.2.1 u17.2.2.2.2 (s_broken + 1) s_lent))))
def f_X8_openBookings (h_count : Int32) (h_slots : Nat → Int32) (h_borrowers : Nat → Int32) (h_dueDays : Nat → Int32) (h_contents : Nat → Int32) (b_count : Int32) (b_hammers : Nat → Int32) (b_borrowers : Nat → Int32) (b_firstDays : Nat → Int32) (b_lastDays : Nat → Int32) (s_day : Int32) (s_broken : Int32) (s_lent : Int32) : Option ((Nat → Int32) × (Nat → Int32) × (Nat → Int32) × (Nat → Int32) × Int32 × (Nat → Int32) × (Nat → Int32) × (Nat → Int32) × (Nat → Int32) × Int32 × Int32) :=
  Option.bind (f_X0_size b_count) (fun u1 =>
    Option.bind (f_X8_openBookings_L8 h_count s_day jFU u1 h_slots h_borrowers h_dueDays h_contents b_count b_hammers b_borrowers b_firstDays b_lastDays s_broken s_lent) (fun o19 => Sum.elim (fun r => some r) (fun s20 =>
      some (s20.2.1, s20.2.2.1, s20.2.2.2.1, s20.2.2.2.2.1, s20.2.2.2.2.2.1, s20.2.2.2.2.2.2.1, s20.2.2.2.2.2.2.2.1, s20.2.2.2.2.2.2.2.2.1, s20.2.2.2.2.2.2.2.2.2.1, s20.2.2.2.2.2.2.2.2.2.2.1, s20.2.2.2.2.2.2.2.2.2.2.2)) o19))
set_option maxHeartbeats 4000000 in
set_option maxRecDepth 100000 in
theorem k_X8_openBookings_L8 {l : Launch} {D : va_G} {t : Nat → ClassId} {ad : Nat → Nat} {o : Nat} (h_count : Int32) (s_day : Int32) (h_pitches : Nat → Int32) (h_wears : Nat → Int32) (r_count : Int32) (r_nextId : Int32) (r_ids : Nat → Int32) (r_borrowers : Nat → Int32) (r_pitches : Nat → Int32) (r_tolerances : Nat → Int32) (r_firstDays : Nat → Int32) (r_lastDays : Nat → Int32) (s_coins : Int32) (s_bookingCoins : Int32) (s_lateCoins : Int32) (s_faceCosts : Int32) {X : jX} (hX : jOK X l D (jT t) cX8_openBookings RX8 none { frames := 3, cells := 0, slots := 0, locals := 66 } 4) {PP : Option Value → va_W → Prop} (hE : jEnd X PP 0 0) :
    ∀ (jn : Nat) (x1 : Int32) (h_slots : Nat → Int32) (h_borrowers : Nat → Int32) (h_dueDays : Nat → Int32) (h_contents : Nat → Int32) (b_count : Int32) (b_hammers : Nat → Int32) (b_borrowers : Nat → Int32) (b_firstDays : Nat → Int32) (b_lastDays : Nat → Int32) (s_broken : Int32) (s_lent : Int32) (u : ((Nat → Int32) × (Nat → Int32) × (Nat → Int32) × (Nat → Int32) × Int32 × (Nat → Int32) × (Nat → Int32) × (Nat → Int32) × (Nat → Int32) × Int32 × Int32) ⊕ (Int32 × (Nat → Int32) × (Nat → Int32) × (Nat → Int32) × (Nat → Int32) × Int32 × (Nat → Int32) × (Nat → Int32) × (Nat → Int32) × (Nat → Int32) × Int32 × Int32)) (hf : f_X8_openBookings_L8 h_count s_day jn x1 h_slots h_borrowers h_dueDays h_contents b_count b_hammers b_borrowers b_firstDays b_lastDays s_broken s_lent = some u) (kx : ∀ s : Int32 × (Nat → Int32) × (Nat → Int32) × (Nat → Int32) × (Nat → Int32) × Int32 × (Nat → Int32) × (Nat → Int32) × (Nat → Int32) × (Nat → Int32) × Int32 × Int32, u = .inr s → J X 0 0 (wS t ad o h_count h_pitches h_wears s.2.1 s.2.2.1 s.2.2.2.1 s.2.2.2.2.1 r_count r_nextId r_ids r_borrowers r_pitches r_tolerances r_firstDays r_lastDays s.2.2.2.2.2.1 s.2.2.2.2.2.2.1 s.2.2.2.2.2.2.2.1 s.2.2.2.2.2.2.2.2.1 s.2.2.2.2.2.2.2.2.2.1 s_day s_coins s_bookingCoins s_lateCoins s_faceCosts s.2.2.2.2.2.2.2.2.2.2.1 s.2.2.2.2.2.2.2.2.2.2.2) 111 [(1, .int s.1), (0, .ref (ad o))] []) (kr : ∀ r : (Nat → Int32) × (Nat → Int32) × (Nat → Int32) × (Nat → Int32) × Int32 × (Nat → Int32) × (Nat → Int32) × (Nat → Int32) × (Nat → Int32) × Int32 × Int32, u = .inl r → PP none (wS t ad o h_count h_pitches h_wears r.1 r.2.1 r.2.2.1 r.2.2.2.1 r_count r_nextId r_ids r_borrowers r_pitches r_tolerances r_firstDays r_lastDays r.2.2.2.2.1 r.2.2.2.2.2.1 r.2.2.2.2.2.2.1 r.2.2.2.2.2.2.2.1 r.2.2.2.2.2.2.2.2.1 s_day s_coins s_bookingCoins s_lateCoins s_faceCosts r.2.2.2.2.2.2.2.2.2.1 r.2.2.2.2.2.2.2.2.2.2)), J X 0 0 (wS t ad o h_count h_pitches h_wears h_slots h_borrowers h_dueDays h_contents r_count r_nextId r_ids r_borrowers r_pitches r_tolerances r_firstDays r_lastDays b_count b_hammers b_borrowers b_firstDays b_lastDays s_day s_coins s_bookingCoins s_lateCoins s_faceCosts s_broken s_lent) 8 [(1, .int x1), (0, .ref (ad o))] [] := by
  intro jn
  induction jn with
  | zero => intro x1 h_slots h_borrowers h_dueDays h_contents b_count b_hammers b_borrowers b_firstDays b_lastDays s_broken s_lent u hf; cases (show (none : Option (((Nat → Int32) × (Nat → Int32) × (Nat → Int32) × (Nat → Int32) × Int32 × (Nat → Int32) × (Nat → Int32) × (Nat → Int32) × (Nat → Int32) × Int32 × Int32) ⊕ (Int32 × (Nat → Int32) × (Nat → Int32) × (Nat → Int32) × (Nat → Int32) × Int32 × (Nat → Int32) × (Nat → Int32) × (Nat → Int32) × (Nat → Int32) × Int32 × Int32))) = some u from hf)
  | succ jn ih =>
    intro x1 h_slots h_borrowers h_dueDays h_contents b_count b_hammers b_borrowers b_firstDays b_lastDays s_broken s_lent u hf kx kr
    unfold f_X8_openBookings_L8 at hf
    refine j_iload_n hX dX8_openBookings_8 rfl 0 rfl ?_
    refine j_if_le hX 111 dX8_openBookings_9 (by decide) hf (fun c9 hf => ?_) (fun c9 hf => ?_)
    · cases hf
      exact kx _ rfl
    · refine j_aload_n hX dX8_openBookings_12 rfl 1 rfl ?_
      refine j_get hX dX8_openBookings_13 inX8 2 q96 0 rfl rfl (by decide) rfl rfl ?_
      refine j_aload_n hX dX8_openBookings_16 rfl 1 rfl ?_
      refine j_get hX dX8_openBookings_17 inX8 3 q98 0 rfl rfl (by decide) rfl rfl ?_
      obtain ⟨u3, h4, hf⟩ := jbind hf
      refine j_callV (st := []) hX (k_X0_beginningOn (l := l) (D := D) (t := t) (ad := ad) (o := o + 15) b_count b_hammers b_borrowers b_firstDays b_lastDays s_day u3 h4) q775 q776 q777 q6 q778 (n9 := 1) rfl ⟨by decide +kernel, by decide +kernel⟩ 0 rfl rfl rfl dX8_openBookings_20 (Nat.le_of_ble_eq_true rfl) ⟨Nat.le_refl _, Nat.le_refl _⟩ (frS_bookings t ad o h_count h_pitches h_wears h_slots h_borrowers h_dueDays h_contents r_count r_nextId r_ids r_borrowers r_pitches r_tolerances r_firstDays r_lastDays s_day s_coins s_bookingCoins s_lateCoins s_faceCosts s_broken s_lent) (frS_bookings_ok t ad o h_count h_pitches h_wears h_slots h_borrowers h_dueDays h_contents r_count r_nextId r_ids r_borrowers r_pitches r_tolerances r_firstDays r_lastDays s_day s_coins s_bookingCoins s_lateCoins s_faceCosts s_broken s_lent) rfl rfl (fun v w hvw => ?_)
      obtain ⟨rfl, rfl⟩ := hvw
      change J X 0 0 (wS t ad o h_count h_pitches h_wears h_slots h_borrowers h_dueDays h_contents r_count r_nextId r_ids r_borrowers r_pitches r_tolerances r_firstDays r_lastDays b_count b_hammers b_borrowers b_firstDays b_lastDays s_day s_coins s_bookingCoins s_lateCoins s_faceCosts s_broken s_lent) 23 [(1, .int x1), (0, .ref (ad o))] [.int u3]
      refine j_istore_n hX [(2, .int u3), (1, .int x1), (0, .ref (ad o))] dX8_openBookings_23 rfl (by decide) rfl ?_
      refine j_iload_n hX dX8_openBookings_24 rfl 0 rfl ?_
      refine j_iconst hX (-1) dX8_openBookings_25 (by decide) ?_
      refine j_icmp_ne hX 30 dX8_openBookings_26 (by decide) hf (fun c26 hf => ?_) (fun c26 hf => ?_)
      · refine j_aload_n hX dX8_openBookings_30 rfl 2 rfl ?_
        refine j_get hX dX8_openBookings_31 inX8 2 q96 0 rfl rfl (by decide) rfl rfl ?_
        refine j_iload_n hX dX8_openBookings_34 rfl 0 rfl ?_
        obtain ⟨u5, h6, hf⟩ := jbind hf
        refine j_callV (st := []) hX (k_X0_hammerOf (l := l) (D := D) (t := t) (ad := ad) (o := o + 15) b_count b_hammers b_borrowers b_firstDays b_lastDays u3 u5 h6) q779 q780 q781 q6 q782 (n9 := 1) rfl ⟨by decide +kernel, by decide +kernel⟩ 0 rfl rfl rfl dX8_openBookings_35 (Nat.le_of_ble_eq_true rfl) ⟨Nat.le_refl _, Nat.le_refl _⟩ (frS_bookings t ad o h_count h_pitches h_wears h_slots h_borrowers h_dueDays h_contents r_count r_nextId r_ids r_borrowers r_pitches r_tolerances r_firstDays r_lastDays s_day s_coins s_bookingCoins s_lateCoins s_faceCosts s_broken s_lent) (frS_bookings_ok t ad o h_count h_pitches h_wears h_slots h_borrowers h_dueDays h_contents r_count r_nextId r_ids r_borrowers r_pitches r_tolerances r_firstDays r_lastDays s_day s_coins s_bookingCoins s_lateCoins s_faceCosts s_broken s_lent) rfl rfl (fun v w hvw => ?_)
        obtain ⟨rfl, rfl⟩ := hvw
        change J X 0 0 (wS t ad o h_count h_pitches h_wears h_slots h_borrowers h_dueDays h_contents r_count r_nextId r_ids r_borrowers r_pitches r_tolerances r_firstDays r_lastDays b_count b_hammers b_borrowers b_firstDays b_lastDays s_day s_coins s_bookingCoins s_lateCoins s_faceCosts s_broken s_lent) 38 [(2, .int u3), (1, .int x1), (0, .ref (ad o))] [.int u5]
        refine j_istore_n hX [(3, .int u5), (2, .int u3), (1, .int x1), (0, .ref (ad o))] dX8_openBookings_38 rfl (by decide) rfl ?_
        refine j_aload_n hX dX8_openBookings_39 rfl 3 rfl ?_
        refine j_get hX dX8_openBookings_40 inX8 0 q90 0 rfl rfl (by decide) rfl rfl ?_
        refine j_iload_n hX dX8_openBookings_43 rfl 0 rfl ?_
        obtain ⟨u7, h8, hf⟩ := jbind hf
        refine j_callV (st := []) hX (k_X2_isAway (l := l) (D := D) (t := t) (ad := ad) (o := o + 1) h_count h_pitches h_wears h_slots h_borrowers h_dueDays h_contents u5 u7 h8) q286 q287 q288 q3 q289 (n9 := 1) rfl ⟨by decide +kernel, by decide +kernel⟩ 0 rfl rfl rfl dX8_openBookings_44 (Nat.le_of_ble_eq_true rfl) ⟨Nat.le_refl _, Nat.le_refl _⟩ (frS_hammers t ad o r_count r_nextId r_ids r_borrowers r_pitches r_tolerances r_firstDays r_lastDays b_count b_hammers b_borrowers b_firstDays b_lastDays s_day s_coins s_bookingCoins s_lateCoins s_faceCosts s_broken s_lent) (frS_hammers_ok t ad o r_count r_nextId r_ids r_borrowers r_pitches r_tolerances r_firstDays r_lastDays b_count b_hammers b_borrowers b_firstDays b_lastDays s_day s_coins s_bookingCoins s_lateCoins s_faceCosts s_broken s_lent) rfl rfl (fun v w hvw => ?_)
        obtain ⟨rfl, rfl⟩ := hvw
        change J X 0 0 (wS t ad o h_count h_pitches h_wears h_slots h_borrowers h_dueDays h_contents r_count r_nextId r_ids r_borrowers r_pitches r_tolerances r_firstDays r_lastDays b_count b_hammers b_borrowers b_firstDays b_lastDays s_day s_coins s_bookingCoins s_lateCoins s_faceCosts s_broken s_lent) 47 [(3, .int u5), (2, .int u3), (1, .int x1), (0, .ref (ad o))] [.int u7]
        refine j_if_eq hX 63 dX8_openBookings_47 (by decide) hf (fun c47 hf => ?_) (fun c47 hf => ?_)
        · refine j_aload_n hX dX8_openBookings_63 rfl 3 rfl ?_
          refine j_get hX dX8_openBookings_64 inX8 0 q90 0 rfl rfl (by decide) rfl rfl ?_
          refine j_iload_n hX dX8_openBookings_67 rfl 0 rfl ?_
          refine j_aload_n hX dX8_openBookings_68 rfl 3 rfl ?_
          refine j_get hX dX8_openBookings_69 inX8 2 q96 0 rfl rfl (by decide) rfl rfl ?_
          refine j_iload_n hX dX8_openBookings_72 rfl 1 rfl ?_
          obtain ⟨u9, h10, hf⟩ := jbind hf
          refine j_callV (st := [.int u5, .ref (ad (o + 1))]) hX (k_X0_borrowerOf (l := l) (D := D) (t := t) (ad := ad) (o := o + 15) b_count b_hammers b_borrowers b_firstDays b_lastDays u3 u9 h10) q783 q784 q785 q6 q786 (n9 := 1) rfl ⟨by decide +kernel, by decide +kernel⟩ 0 rfl rfl rfl dX8_openBookings_73 (Nat.le_of_ble_eq_true rfl) ⟨Nat.le_refl _, Nat.le_refl _⟩ (frS_bookings t ad o h_count h_pitches h_wears h_slots h_borrowers h_dueDays h_contents r_count r_nextId r_ids r_borrowers r_pitches r_tolerances r_firstDays r_lastDays s_day s_coins s_bookingCoins s_lateCoins s_faceCosts s_broken s_lent) (frS_bookings_ok t ad o h_count h_pitches h_wears h_slots h_borrowers h_dueDays h_contents r_count r_nextId r_ids r_borrowers r_pitches r_tolerances r_firstDays r_lastDays s_day s_coins s_bookingCoins s_lateCoins s_faceCosts s_broken s_lent) rfl rfl (fun v w hvw => ?_)
          obtain ⟨rfl, rfl⟩ := hvw
          change J X 0 0 (wS t ad o h_count h_pitches h_wears h_slots h_borrowers h_dueDays h_contents r_count r_nextId r_ids r_borrowers r_pitches r_tolerances r_firstDays r_lastDays b_count b_hammers b_borrowers b_firstDays b_lastDays s_day s_coins s_bookingCoins s_lateCoins s_faceCosts s_broken s_lent) 76 [(3, .int u5), (2, .int u3), (1, .int x1), (0, .ref (ad o))] [.int u9, .int u5, .ref (ad (o + 1))]
          refine j_aload_n hX dX8_openBookings_76 rfl 3 rfl ?_
          refine j_get hX dX8_openBookings_77 inX8 2 q96 0 rfl rfl (by decide) rfl rfl ?_
          refine j_iload_n hX dX8_openBookings_80 rfl 1 rfl ?_
          obtain ⟨u11, h12, hf⟩ := jbind hf
          refine j_callV (st := [.int u9, .int u5, .ref (ad (o + 1))]) hX (k_X0_lastDayOf (l := l) (D := D) (t := t) (ad := ad) (o := o + 15) b_count b_hammers b_borrowers b_firstDays b_lastDays u3 u11 h12) q787 q788 q789 q6 q790 (n9 := 1) rfl ⟨by decide +kernel, by decide +kernel⟩ 0 rfl rfl rfl dX8_openBookings_81 (Nat.le_of_ble_eq_true rfl) ⟨Nat.le_refl _, Nat.le_refl _⟩ (frS_bookings t ad o h_count h_pitches h_wears h_slots h_borrowers h_dueDays h_contents r_count r_nextId r_ids r_borrowers r_pitches r_tolerances r_firstDays r_lastDays s_day s_coins s_bookingCoins s_lateCoins s_faceCosts s_broken s_lent) (frS_bookings_ok t ad o h_count h_pitches h_wears h_slots h_borrowers h_dueDays h_contents r_count r_nextId r_ids r_borrowers r_pitches r_tolerances r_firstDays r_lastDays s_day s_coins s_bookingCoins s_lateCoins s_faceCosts s_broken s_lent) rfl rfl (fun v w hvw => ?_)
          obtain ⟨rfl, rfl⟩ := hvw
          change J X 0 0 (wS t ad o h_count h_pitches h_wears h_slots h_borrowers h_dueDays h_contents r_count r_nextId r_ids r_borrowers r_pitches r_tolerances r_firstDays r_lastDays b_count b_hammers b_borrowers b_firstDays b_lastDays s_day s_coins s_bookingCoins s_lateCoins s_faceCosts s_broken s_lent) 84 [(3, .int u5), (2, .int u3), (1, .int x1), (0, .ref (ad o))] [.int u11, .int u9, .int u5, .ref (ad (o + 1))]
          obtain ⟨u13, h14, hf⟩ := jbind hf
          refine j_callV (st := []) hX (k_X2_lend (l := l) (D := D) (t := t) (ad := ad) (o := o + 1) h_count h_pitches h_wears h_slots h_borrowers h_dueDays h_contents u5 u9 u11 u13 h14) q791 q792 q793 q3 q794 (n9 := 3) rfl ⟨by decide +kernel, by decide +kernel⟩ 0 rfl rfl rfl dX8_openBookings_84 (Nat.le_of_ble_eq_true rfl) ⟨Nat.le_refl _, Nat.le_refl _⟩ (frS_hammers t ad o r_count r_nextId r_ids r_borrowers r_pitches r_tolerances r_firstDays r_lastDays b_count b_hammers b_borrowers b_firstDays b_lastDays s_day s_coins s_bookingCoins s_lateCoins s_faceCosts s_broken s_lent) (frS_hammers_ok t ad o r_count r_nextId r_ids r_borrowers r_pitches r_tolerances r_firstDays r_lastDays b_count b_hammers b_borrowers b_firstDays b_lastDays s_day s_coins s_bookingCoins s_lateCoins s_faceCosts s_broken s_lent) rfl rfl (fun v w hvw => ?_)
          obtain ⟨rfl, rfl⟩ := hvw
          change J X 0 0 (wS t ad o h_count h_pitches h_wears u13.1 u13.2.1 u13.2.2.1 u13.2.2.2 r_count r_nextId r_ids r_borrowers r_pitches r_tolerances r_firstDays r_lastDays b_count b_hammers b_borrowers b_firstDays b_lastDays s_day s_coins s_bookingCoins s_lateCoins s_faceCosts s_broken s_lent) 87 [(3, .int u5), (2, .int u3), (1, .int x1), (0, .ref (ad o))] []
          refine j_aload_n hX dX8_openBookings_87 rfl 3 rfl ?_
          refine j_dup hX dX8_openBookings_88 rfl ?_
          refine j_get hX dX8_openBookings_89 inX8 9 q110 0 rfl rfl (by decide) rfl rfl ?_
          refine j_iconst hX 1 dX8_openBookings_92 (by decide) ?_
          refine j_iadd hX dX8_openBookings_93 ?_
          refine j_put hX (wS t ad o h_count h_pitches h_wears u13.1 u13.2.1 u13.2.2.1 u13.2.2.2 r_count r_nextId r_ids r_borrowers r_pitches r_tolerances r_firstDays r_lastDays b_count b_hammers b_borrowers b_firstDays b_lastDays s_day s_coins s_bookingCoins s_lateCoins s_faceCosts s_broken (s_lent + 1)) tyX8 dX8_openBookings_94 inX8 tyX8_ok nmX8 9 q110 0 rfl rfl (by decide) rfl rfl rfl rfl rfl (Nat.le_of_ble_eq_true rfl) rfl ?_
          refine j_aload_n hX dX8_openBookings_97 rfl 3 rfl ?_
          refine j_get hX dX8_openBookings_98 inX8 2 q96 0 rfl rfl (by decide) rfl rfl ?_
          refine j_iload_n hX dX8_openBookings_101 rfl 1 rfl ?_
          obtain ⟨u15, h16, hf⟩ := jbind hf
          refine j_callV (st := []) hX (k_X0_remove (l := l) (D := D) (t := t) (ad := ad) (o := o + 15) b_count b_hammers b_borrowers b_firstDays b_lastDays u3 u15 h16) q796 q797 q798 q6 q799 (n9 := 1) rfl ⟨by decide +kernel, by decide +kernel⟩ 0 rfl rfl rfl dX8_openBookings_102 (Nat.le_of_ble_eq_true rfl) ⟨Nat.le_refl _, Nat.le_refl _⟩ (frS_bookings t ad o h_count h_pitches h_wears u13.1 u13.2.1 u13.2.2.1 u13.2.2.2 r_count r_nextId r_ids r_borrowers r_pitches r_tolerances r_firstDays r_lastDays s_day s_coins s_bookingCoins s_lateCoins s_faceCosts s_broken (s_lent + 1)) (frS_bookings_ok t ad o h_count h_pitches h_wears u13.1 u13.2.1 u13.2.2.1 u13.2.2.2 r_count r_nextId r_ids r_borrowers r_pitches r_tolerances r_firstDays r_lastDays s_day s_coins s_bookingCoins s_lateCoins s_faceCosts s_broken (s_lent + 1)) rfl rfl (fun v w hvw => ?_)
          obtain ⟨rfl, rfl⟩ := hvw
          change J X 0 0 (wS t ad o h_count h_pitches h_wears u13.1 u13.2.1 u13.2.2.1 u13.2.2.2 r_count r_nextId r_ids r_borrowers r_pitches r_tolerances r_firstDays r_lastDays u15.1 u15.2.1 u15.2.2.1 u15.2.2.2.1 u15.2.2.2.2 s_day s_coins s_bookingCoins s_lateCoins s_faceCosts s_broken (s_lent + 1)) 105 [(3, .int u5), (2, .int u3), (1, .int x1), (0, .ref (ad o))] []
          refine j_iinc hX (x1 + (-1)) [(1, .int (x1 + (-1))), (3, .int u5), (2, .int u3), (0, .ref (ad o))] dX8_openBookings_105 2 rfl rfl (by decide) rfl ?_
          refine j_goto hX 8 dX8_openBookings_108 (by decide) ?_
          refine j_sub hX [(1, .int (x1 + (-1))), (0, .ref (ad o))] [0, 3] rfl ?_
          exact ih (x1 + (-1)) u13.1 u13.2.1 u13.2.2.1 u13.2.2.2 u15.1 u15.2.1 u15.2.2.1 u15.2.2.2.1 u15.2.2.2.2 s_broken (s_lent + 1) u hf kx kr
        · refine j_aload_n hX dX8_openBookings_50 rfl 3 rfl ?_
          refine j_dup hX dX8_openBookings_51 rfl ?_
          refine j_get hX dX8_openBookings_52 inX8 8 q108 0 rfl rfl (by decide) rfl rfl ?_
          refine j_iconst hX 1 dX8_openBookings_55 (by decide) ?_
          refine j_iadd hX dX8_openBookings_56 ?_
          refine j_put hX (wS t ad o h_count h_pitches h_wears h_slots h_borrowers h_dueDays h_contents r_count r_nextId r_ids r_borrowers r_pitches r_tolerances r_firstDays r_lastDays b_count b_hammers b_borrowers b_firstDays b_lastDays s_day s_coins s_bookingCoins s_lateCoins s_faceCosts (s_broken + 1) s_lent) tyX8 dX8_openBookings_57 inX8 tyX8_ok nmX8 8 q108 0 rfl rfl (by decide) rfl rfl rfl rfl rfl (Nat.le_of_ble_eq_true rfl) rfl ?_
          refine j_goto hX 97 dX8_openBookings_60 (by decide) ?_
          refine j_aload_n hX dX8_openBookings_97 rfl 3 rfl ?_
          refine j_get hX dX8_openBookings_98 inX8 2 q96 0 rfl rfl (by decide) rfl rfl ?_
          refine j_iload_n hX dX8_openBookings_101 rfl 1 rfl ?_
          obtain ⟨u17, h18, hf⟩ := jbind hf
          refine j_callV (st := []) hX (k_X0_remove (l := l) (D := D) (t := t) (ad := ad) (o := o + 15) b_count b_hammers b_borrowers b_firstDays b_lastDays u3 u17 h18) q796 q797 q798 q6 q799 (n9 := 1) rfl ⟨by decide +kernel, by decide +kernel⟩ 0 rfl rfl rfl dX8_openBookings_102 (Nat.le_of_ble_eq_true rfl) ⟨Nat.le_refl _, Nat.le_refl _⟩ (frS_bookings t ad o h_count h_pitches h_wears h_slots h_borrowers h_dueDays h_contents r_count r_nextId r_ids r_borrowers r_pitches r_tolerances r_firstDays r_lastDays s_day s_coins s_bookingCoins s_lateCoins s_faceCosts (s_broken + 1) s_lent) (frS_bookings_ok t ad o h_count h_pitches h_wears h_slots h_borrowers h_dueDays h_contents r_count r_nextId r_ids r_borrowers r_pitches r_tolerances r_firstDays r_lastDays s_day s_coins s_bookingCoins s_lateCoins s_faceCosts (s_broken + 1) s_lent) rfl rfl (fun v w hvw => ?_)
          obtain ⟨rfl, rfl⟩ := hvw
          change J X 0 0 (wS t ad o h_count h_pitches h_wears h_slots h_borrowers h_dueDays h_contents r_count r_nextId r_ids r_borrowers r_pitches r_tolerances r_firstDays r_lastDays u17.1 u17.2.1 u17.2.2.1 u17.2.2.2.1 u17.2.2.2.2 s_day s_coins s_bookingCoins s_lateCoins s_faceCosts (s_broken + 1) s_lent) 105 [(3, .int u5), (2, .int u3), (1, .int x1), (0, .ref (ad o))] []
          refine j_iinc hX (x1 + (-1)) [(1, .int (x1 + (-1))), (3, .int u5), (2, .int u3), (0, .ref (ad o))] dX8_openBookings_105 2 rfl rfl (by decide) rfl ?_
          refine j_goto hX 8 dX8_openBookings_108 (by decide) ?_
          refine j_sub hX [(1, .int (x1 + (-1))), (0, .ref (ad o))] [0, 3] rfl ?_
          exact ih (x1 + (-1)) h_slots h_borrowers h_dueDays h_contents u17.1 u17.2.1 u17.2.2.1 u17.2.2.2.1 u17.2.2.2.2 (s_broken + 1) s_lent u hf kx kr
      · cases hf
        exact j_vret hX hE dX8_openBookings_29 (Nat.le_refl _) (Nat.le_refl _) (kr _ rfl)
set_option maxHeartbeats 4000000 in
set_option maxRecDepth 100000 in
theorem k_X8_openBookings {l : Launch} {D : va_G} {t : Nat → ClassId} {ad : Nat → Nat} {o : Nat} (h_count : Int32) (h_pitches : Nat → Int32) (h_wears : Nat → Int32) (h_slots : Nat → Int32) (h_borrowers : Nat → Int32) (h_dueDays : Nat → Int32) (h_contents : Nat → Int32) (r_count : Int32) (r_nextId : Int32) (r_ids : Nat → Int32) (r_borrowers : Nat → Int32) (r_pitches : Nat → Int32) (r_tolerances : Nat → Int32) (r_firstDays : Nat → Int32) (r_lastDays : Nat → Int32) (b_count : Int32) (b_hammers : Nat → Int32) (b_borrowers : Nat → Int32) (b_firstDays : Nat → Int32) (b_lastDays : Nat → Int32) (s_day : Int32) (s_coins : Int32) (s_bookingCoins : Int32) (s_lateCoins : Int32) (s_faceCosts : Int32) (s_broken : Int32) (s_lent : Int32)  (u : (Nat → Int32) × (Nat → Int32) × (Nat → Int32) × (Nat → Int32) × Int32 × (Nat → Int32) × (Nat → Int32) × (Nat → Int32) × (Nat → Int32) × Int32 × Int32) (hf : f_X8_openBookings h_count h_slots h_borrowers h_dueDays h_contents b_count b_hammers b_borrowers b_firstDays b_lastDays s_day s_broken s_lent = some u) : cm l D (jT t) yX8_openBookings cX8_openBookings 4 none { frames := 3, cells := 0, slots := 0, locals := 66 } [.ref (ad o)] (wS t ad o h_count h_pitches h_wears h_slots h_borrowers h_dueDays h_contents r_count r_nextId r_ids r_borrowers r_pitches r_tolerances r_firstDays r_lastDays b_count b_hammers b_borrowers b_firstDays b_lastDays s_day s_coins s_bookingCoins s_lateCoins s_faceCosts s_broken s_lent) (fun v w => v = none ∧ w = wS t ad o h_count h_pitches h_wears u.1 u.2.1 u.2.2.1 u.2.2.2.1 r_count r_nextId r_ids r_borrowers r_pitches r_tolerances r_firstDays r_lastDays u.2.2.2.2.1 u.2.2.2.2.2.1 u.2.2.2.2.2.2.1 u.2.2.2.2.2.2.2.1 u.2.2.2.2.2.2.2.2.1 s_day s_coins s_bookingCoins s_lateCoins s_faceCosts u.2.2.2.2.2.2.2.2.2.1 u.2.2.2.2.2.2.2.2.2.2) := by
  refine cm_of RX8 rfl (by decide +kernel) (Nat.le_of_ble_eq_true rfl) (fun X hX hE => ?_)
  change J X 0 0 (wS t ad o h_count h_pitches h_wears h_slots h_borrowers h_dueDays h_contents r_count r_nextId r_ids r_borrowers r_pitches r_tolerances r_firstDays r_lastDays b_count b_hammers b_borrowers b_firstDays b_lastDays s_day s_coins s_bookingCoins s_lateCoins s_faceCosts s_broken s_lent) 0 [(0, .ref (ad o))] []
  unfold f_X8_openBookings at hf
  refine j_aload_n hX dX8_openBookings_0 rfl 0 rfl ?_
  refine j_get hX dX8_openBookings_1 inX8 2 q96 0 rfl rfl (by decide) rfl rfl ?_
  obtain ⟨u1, h2, hf⟩ := jbind hf
  refine j_callV (st := []) hX (k_X0_size (l := l) (D := D) (t := t) (ad := ad) (o := o + 15) b_count b_hammers b_borrowers b_firstDays b_lastDays  u1 h2) q771 q772 q773 q6 q774 (n9 := 0) rfl ⟨by decide +kernel, by decide +kernel⟩ 0 rfl rfl rfl dX8_openBookings_4 (Nat.le_of_ble_eq_true rfl) ⟨Nat.le_refl _, Nat.le_refl _⟩ (frS_bookings t ad o h_count h_pitches h_wears h_slots h_borrowers h_dueDays h_contents r_count r_nextId r_ids r_borrowers r_pitches r_tolerances r_firstDays r_lastDays s_day s_coins s_bookingCoins s_lateCoins s_faceCosts s_broken s_lent) (frS_bookings_ok t ad o h_count h_pitches h_wears h_slots h_borrowers h_dueDays h_contents r_count r_nextId r_ids r_borrowers r_pitches r_tolerances r_firstDays r_lastDays s_day s_coins s_bookingCoins s_lateCoins s_faceCosts s_broken s_lent) rfl rfl (fun v w hvw => ?_)
  obtain ⟨rfl, rfl⟩ := hvw
  change J X 0 0 (wS t ad o h_count h_pitches h_wears h_slots h_borrowers h_dueDays h_contents r_count r_nextId r_ids r_borrowers r_pitches r_tolerances r_firstDays r_lastDays b_count b_hammers b_borrowers b_firstDays b_lastDays s_day s_coins s_bookingCoins s_lateCoins s_faceCosts s_broken s_lent) 7 [(0, .ref (ad o))] [.int u1]
  refine j_istore_n hX [(1, .int u1), (0, .ref (ad o))] dX8_openBookings_7 rfl (by decide) rfl ?_
  obtain ⟨o19, h21, hf⟩ := jbind hf
  refine k_X8_openBookings_L8 (ad := ad) h_count s_day h_pitches h_wears r_count r_nextId r_ids r_borrowers r_pitches r_tolerances r_firstDays r_lastDays s_coins s_bookingCoins s_lateCoins s_faceCosts hX hE jFU u1 h_slots h_borrowers h_dueDays h_contents b_count b_hammers b_borrowers b_firstDays b_lastDays s_broken s_lent o19 h21 (fun s20 es20 => ?_) (fun r er => ?_)
  · subst es20
    have hf := jsum_r hf
    cases hf
    exact j_vret hX hE dX8_openBookings_111 (Nat.le_refl _) (Nat.le_refl _) ⟨rfl, rfl⟩
  · subst er
    cases hf
    exact ⟨rfl, rfl⟩
-- HammerDepot$State advance (I)I
def f_X8_advance_L20 (h_count : Int32) (x1 : Int32) : Nat → Int32 → (Nat → Int32) → (Nat → Int32) → (Nat → Int32) → (Nat → Int32) → Int32 → (Nat → Int32) → (Nat → Int32) → (Nat → Int32) → (Nat → Int32) → Int32 → Int32 → Int32 → Option (Int32 × (Nat → Int32) × (Nat → Int32) × (Nat → Int32) × (Nat → Int32) × Int32 × (Nat → Int32) × (Nat → Int32) × (Nat → Int32) × (Nat → Int32) × Int32 × Int32 × Int32)
  | 0, _, _, _, _, _, _, _, _, _, _, _, _, _ => none
  | jn + 1, x3, h_slots, h_borrowers, h_dueDays, h_contents, b_count, b_hammers, b_borrowers, b_firstDays, b_lastDays, s_day, s_broken, s_lent =>
    if x1 ≤ x3 then
      some (x3, h_slots, h_borrowers, h_dueDays, h_contents, b_count, b_hammers, b_borrowers, b_firstDays, b_lastDays, s_day, s_broken, s_lent)
    else
      Option.bind (f_X8_openBookings h_count h_slots h_borrowers h_dueDays h_contents b_count b_hammers b_borrowers b_firstDays b_lastDays (s_day + 1) s_broken s_lent) (fun u1 =>
        f_X8_advance_L20 h_count x1 jn (x3 + 1) u1.1 u1.2.1 u1.2.2.1 u1.2.2.2.1 u1.2.2.2.2.1 u1.2.2.2.2.2.1 u1.2.2.2.2.2.2.1 u1.2.2.2.2.2.2.2.1 u1.2.2.2.2.2.2.2.2.1 (s_day + 1) u1.2.2.2.2.2.2.2.2.2.1 u1.2.2.2.2.2.2.2.2.2.2)
def f_X8_advance (h_count : Int32) (h_slots : Nat → Int32) (h_borrowers : Nat → Int32) (h_dueDays : Nat → Int32) (h_contents : Nat → Int32) (b_count : Int32) (b_hammers : Nat → Int32) (b_borrowers : Nat → Int32) (b_firstDays : Nat → Int32) (b_lastDays : Nat → Int32) (s_day : Int32) (s_broken : Int32) (s_lent : Int32) (a0 : Int32) : Option (Int32 × (Nat → Int32) × (Nat → Int32) × (Nat → Int32) × (Nat → Int32) × Int32 × (Nat → Int32) × (Nat → Int32) × (Nat → Int32) × (Nat → Int32) × Int32 × Int32 × Int32) :=
  if a0 < 1 then
    some ((-1), h_slots, h_borrowers, h_dueDays, h_contents, b_count, b_hammers, b_borrowers, b_firstDays, b_lastDays, s_day, s_broken, s_lent)
  else
    if a0 ≤ 30 then
      Option.bind (f_X8_advance_L20 h_count a0 jFU 0 h_slots h_borrowers h_dueDays h_contents b_count b_hammers b_borrowers b_firstDays b_lastDays s_day s_broken s_lent) (fun s4 =>
        some (s4.2.2.2.2.2.2.2.2.2.2.2.2 - s_lent, s4.2.1, s4.2.2.1, s4.2.2.2.1, s4.2.2.2.2.1, s4.2.2.2.2.2.1, s4.2.2.2.2.2.2.1, s4.2.2.2.2.2.2.2.1, s4.2.2.2.2.2.2.2.2.1, s4.2.2.2.2.2.2.2.2.2.1, s4.2.2.2.2.2.2.2.2.2.2.1, s4.2.2.2.2.2.2.2.2.2.2.2.1, s4.2.2.2.2.2.2.2.2.2.2.2.2))
    else
      some ((-1), h_slots, h_borrowers, h_dueDays, h_contents, b_count, b_hammers, b_borrowers, b_firstDays, b_lastDays, s_day, s_broken, s_lent)
set_option maxHeartbeats 4000000 in
set_option maxRecDepth 100000 in
theorem k_X8_advance_L20 {l : Launch} {D : va_G} {t : Nat → ClassId} {ad : Nat → Nat} {o : Nat} (h_count : Int32) (x1 : Int32) (h_pitches : Nat → Int32) (h_wears : Nat → Int32) (r_count : Int32) (r_nextId : Int32) (r_ids : Nat → Int32) (r_borrowers : Nat → Int32) (r_pitches : Nat → Int32) (r_tolerances : Nat → Int32) (r_firstDays : Nat → Int32) (r_lastDays : Nat → Int32) (s_coins : Int32) (s_bookingCoins : Int32) (s_lateCoins : Int32) (s_faceCosts : Int32) (x2 : Int32) {X : jX} (hX : jOK X l D (jT t) cX8_advance RX8 (some FieldType.int) { frames := 4, cells := 0, slots := 0, locals := 89 } 4) :
    ∀ (jn : Nat) (x3 : Int32) (h_slots : Nat → Int32) (h_borrowers : Nat → Int32) (h_dueDays : Nat → Int32) (h_contents : Nat → Int32) (b_count : Int32) (b_hammers : Nat → Int32) (b_borrowers : Nat → Int32) (b_firstDays : Nat → Int32) (b_lastDays : Nat → Int32) (s_day : Int32) (s_broken : Int32) (s_lent : Int32) (u : Int32 × (Nat → Int32) × (Nat → Int32) × (Nat → Int32) × (Nat → Int32) × Int32 × (Nat → Int32) × (Nat → Int32) × (Nat → Int32) × (Nat → Int32) × Int32 × Int32 × Int32) (hf : f_X8_advance_L20 h_count x1 jn x3 h_slots h_borrowers h_dueDays h_contents b_count b_hammers b_borrowers b_firstDays b_lastDays s_day s_broken s_lent = some u) (kx : ∀ s : Int32 × (Nat → Int32) × (Nat → Int32) × (Nat → Int32) × (Nat → Int32) × Int32 × (Nat → Int32) × (Nat → Int32) × (Nat → Int32) × (Nat → Int32) × Int32 × Int32 × Int32, u = s → J X 0 0 (wS t ad o h_count h_pitches h_wears s.2.1 s.2.2.1 s.2.2.2.1 s.2.2.2.2.1 r_count r_nextId r_ids r_borrowers r_pitches r_tolerances r_firstDays r_lastDays s.2.2.2.2.2.1 s.2.2.2.2.2.2.1 s.2.2.2.2.2.2.2.1 s.2.2.2.2.2.2.2.2.1 s.2.2.2.2.2.2.2.2.2.1 s.2.2.2.2.2.2.2.2.2.2.1 s_coins s_bookingCoins s_lateCoins s_faceCosts s.2.2.2.2.2.2.2.2.2.2.2.1 s.2.2.2.2.2.2.2.2.2.2.2.2) 45 [(3, .int s.1), (2, .int x2), (0, .ref (ad o)), (1, .int x1)] []), J X 0 0 (wS t ad o h_count h_pitches h_wears h_slots h_borrowers h_dueDays h_contents r_count r_nextId r_ids r_borrowers r_pitches r_tolerances r_firstDays r_lastDays b_count b_hammers b_borrowers b_firstDays b_lastDays s_day s_coins s_bookingCoins s_lateCoins s_faceCosts s_broken s_lent) 20 [(3, .int x3), (2, .int x2), (0, .ref (ad o)), (1, .int x1)] [] := by
  intro jn
  induction jn with
  | zero => intro x3 h_slots h_borrowers h_dueDays h_contents b_count b_hammers b_borrowers b_firstDays b_lastDays s_day s_broken s_lent u hf; cases (show (none : Option (Int32 × (Nat → Int32) × (Nat → Int32) × (Nat → Int32) × (Nat → Int32) × Int32 × (Nat → Int32) × (Nat → Int32) × (Nat → Int32) × (Nat → Int32) × Int32 × Int32 × Int32)) = some u from hf)
  | succ jn ih =>
    intro x3 h_slots h_borrowers h_dueDays h_contents b_count b_hammers b_borrowers b_firstDays b_lastDays s_day s_broken s_lent u hf kx
    unfold f_X8_advance_L20 at hf
    refine j_iload_n hX dX8_advance_20 rfl 0 rfl ?_
    refine j_iload_n hX dX8_advance_21 rfl 3 rfl ?_
    refine j_icmp_ge hX 45 dX8_advance_22 (by decide) hf (fun c22 hf => ?_) (fun c22 hf => ?_)
    · cases hf
      exact kx _ rfl
    · refine j_aload_n hX dX8_advance_25 rfl 2 rfl ?_
      refine j_dup hX dX8_advance_26 rfl ?_
      refine j_get hX dX8_advance_27 inX8 3 q98 0 rfl rfl (by decide) rfl rfl ?_
      refine j_iconst hX 1 dX8_advance_30 (by decide) ?_
      refine j_iadd hX dX8_advance_31 ?_
      refine j_put hX (wS t ad o h_count h_pitches h_wears h_slots h_borrowers h_dueDays h_contents r_count r_nextId r_ids r_borrowers r_pitches r_tolerances r_firstDays r_lastDays b_count b_hammers b_borrowers b_firstDays b_lastDays (s_day + 1) s_coins s_bookingCoins s_lateCoins s_faceCosts s_broken s_lent) tyX8 dX8_advance_32 inX8 tyX8_ok nmX8 3 q98 0 rfl rfl (by decide) rfl rfl rfl rfl rfl (Nat.le_of_ble_eq_true rfl) rfl ?_
      refine j_aload_n hX dX8_advance_35 rfl 2 rfl ?_
      obtain ⟨u1, h2, hf⟩ := jbind hf
      refine j_callV (st := []) hX (k_X8_openBookings (l := l) (D := D) (t := t) (ad := ad) (o := o) h_count h_pitches h_wears h_slots h_borrowers h_dueDays h_contents r_count r_nextId r_ids r_borrowers r_pitches r_tolerances r_firstDays r_lastDays b_count b_hammers b_borrowers b_firstDays b_lastDays (s_day + 1) s_coins s_bookingCoins s_lateCoins s_faceCosts s_broken s_lent  u1 h2) q768 q769 q1932 q2 q770 (n9 := 0) rfl ⟨by decide +kernel, by decide +kernel⟩ 0 rfl rfl rfl dX8_advance_36 (Nat.le_of_ble_eq_true rfl) ⟨Nat.le_refl _, Nat.le_refl _⟩ (fun w : va_W => w) jFr_id rfl rfl (fun v w hvw => ?_)
      obtain ⟨rfl, rfl⟩ := hvw
      change J X 0 0 (wS t ad o h_count h_pitches h_wears u1.1 u1.2.1 u1.2.2.1 u1.2.2.2.1 r_count r_nextId r_ids r_borrowers r_pitches r_tolerances r_firstDays r_lastDays u1.2.2.2.2.1 u1.2.2.2.2.2.1 u1.2.2.2.2.2.2.1 u1.2.2.2.2.2.2.2.1 u1.2.2.2.2.2.2.2.2.1 (s_day + 1) s_coins s_bookingCoins s_lateCoins s_faceCosts u1.2.2.2.2.2.2.2.2.2.1 u1.2.2.2.2.2.2.2.2.2.2) 39 [(3, .int x3), (2, .int x2), (0, .ref (ad o)), (1, .int x1)] []
      refine j_iinc hX (x3 + 1) [(3, .int (x3 + 1)), (2, .int x2), (0, .ref (ad o)), (1, .int x1)] dX8_advance_39 0 rfl rfl (by decide) rfl ?_
      refine j_goto hX 20 dX8_advance_42 (by decide) ?_
      exact ih (x3 + 1) u1.1 u1.2.1 u1.2.2.1 u1.2.2.2.1 u1.2.2.2.2.1 u1.2.2.2.2.2.1 u1.2.2.2.2.2.2.1 u1.2.2.2.2.2.2.2.1 u1.2.2.2.2.2.2.2.2.1 (s_day + 1) u1.2.2.2.2.2.2.2.2.2.1 u1.2.2.2.2.2.2.2.2.2.2 u hf kx
set_option maxHeartbeats 4000000 in
set_option maxRecDepth 100000 in
theorem k_X8_advance {l : Launch} {D : va_G} {t : Nat → ClassId} {ad : Nat → Nat} {o : Nat} (h_count : Int32) (h_pitches : Nat → Int32) (h_wears : Nat → Int32) (h_slots : Nat → Int32) (h_borrowers : Nat → Int32) (h_dueDays : Nat → Int32) (h_contents : Nat → Int32) (r_count : Int32) (r_nextId : Int32) (r_ids : Nat → Int32) (r_borrowers : Nat → Int32) (r_pitches : Nat → Int32) (r_tolerances : Nat → Int32) (r_firstDays : Nat → Int32) (r_lastDays : Nat → Int32) (b_count : Int32) (b_hammers : Nat → Int32) (b_borrowers : Nat → Int32) (b_firstDays : Nat → Int32) (b_lastDays : Nat → Int32) (s_day : Int32) (s_coins : Int32) (s_bookingCoins : Int32) (s_lateCoins : Int32) (s_faceCosts : Int32) (s_broken : Int32) (s_lent : Int32) (a0 : Int32) (u : Int32 × (Nat → Int32) × (Nat → Int32) × (Nat → Int32) × (Nat → Int32) × Int32 × (Nat → Int32) × (Nat → Int32) × (Nat → Int32) × (Nat → Int32) × Int32 × Int32 × Int32) (hf : f_X8_advance h_count h_slots h_borrowers h_dueDays h_contents b_count b_hammers b_borrowers b_firstDays b_lastDays s_day s_broken s_lent a0 = some u) : cm l D (jT t) yX8_advance cX8_advance 4 (some FieldType.int) { frames := 4, cells := 0, slots := 0, locals := 89 } [.ref (ad o), .int a0] (wS t ad o h_count h_pitches h_wears h_slots h_borrowers h_dueDays h_contents r_count r_nextId r_ids r_borrowers r_pitches r_tolerances r_firstDays r_lastDays b_count b_hammers b_borrowers b_firstDays b_lastDays s_day s_coins s_bookingCoins s_lateCoins s_faceCosts s_broken s_lent) (fun v w => v = (some (.int u.1)) ∧ w = wS t ad o h_count h_pitches h_wears u.2.1 u.2.2.1 u.2.2.2.1 u.2.2.2.2.1 r_count r_nextId r_ids r_borrowers r_pitches r_tolerances r_firstDays r_lastDays u.2.2.2.2.2.1 u.2.2.2.2.2.2.1 u.2.2.2.2.2.2.2.1 u.2.2.2.2.2.2.2.2.1 u.2.2.2.2.2.2.2.2.2.1 u.2.2.2.2.2.2.2.2.2.2.1 s_coins s_bookingCoins s_lateCoins s_faceCosts u.2.2.2.2.2.2.2.2.2.2.2.1 u.2.2.2.2.2.2.2.2.2.2.2.2) := by
  refine cm_of RX8 rfl (by decide +kernel) (Nat.le_of_ble_eq_true rfl) (fun X hX hE => ?_)
  change J X 0 0 (wS t ad o h_count h_pitches h_wears h_slots h_borrowers h_dueDays h_contents r_count r_nextId r_ids r_borrowers r_pitches r_tolerances r_firstDays r_lastDays b_count b_hammers b_borrowers b_firstDays b_lastDays s_day s_coins s_bookingCoins s_lateCoins s_faceCosts s_broken s_lent) 0 [(0, .ref (ad o)), (1, .int a0)] []
  unfold f_X8_advance at hf
  refine j_iload_n hX dX8_advance_0 rfl 1 rfl ?_
  refine j_iconst hX 1 dX8_advance_1 (by decide) ?_
  refine j_icmp_lt hX 11 dX8_advance_2 (by decide) hf (fun c2 hf => ?_) (fun c2 hf => ?_)
  · refine j_iconst hX (-1) dX8_advance_11 (by decide) ?_
    cases hf
    exact j_iret hX hE dX8_advance_12 (Nat.le_refl _) (Nat.le_refl _) ⟨rfl, rfl⟩
  · refine j_iload_n hX dX8_advance_5 rfl 1 rfl ?_
    refine j_bipush hX 30 dX8_advance_6 (by decide) ?_
    refine j_icmp_le hX 13 dX8_advance_8 (by decide) hf (fun c8 hf => ?_) (fun c8 hf => ?_)
    · refine j_aload_n hX dX8_advance_13 rfl 0 rfl ?_
      refine j_get hX dX8_advance_14 inX8 9 q110 0 rfl rfl (by decide) rfl rfl ?_
      refine j_istore_n hX [(2, .int s_lent), (0, .ref (ad o)), (1, .int a0)] dX8_advance_17 rfl (by decide) rfl ?_
      refine j_iconst hX 0 dX8_advance_18 (by decide) ?_
      refine j_istore_n hX [(3, .int 0), (2, .int s_lent), (0, .ref (ad o)), (1, .int a0)] dX8_advance_19 rfl (by decide) rfl ?_
      obtain ⟨s4, h5, hf⟩ := jbind hf
      refine k_X8_advance_L20 (ad := ad) h_count a0 h_pitches h_wears r_count r_nextId r_ids r_borrowers r_pitches r_tolerances r_firstDays r_lastDays s_coins s_bookingCoins s_lateCoins s_faceCosts s_lent hX jFU 0 h_slots h_borrowers h_dueDays h_contents b_count b_hammers b_borrowers b_firstDays b_lastDays s_day s_broken s_lent s4 h5 (fun s40 es4 => ?_)
      subst es4
      refine j_aload_n hX dX8_advance_45 rfl 2 rfl ?_
      refine j_get hX dX8_advance_46 inX8 9 q110 0 rfl rfl (by decide) rfl rfl ?_
      refine j_iload_n hX dX8_advance_49 rfl 1 rfl ?_
      refine j_isub hX dX8_advance_50 ?_
      cases hf
      exact j_iret hX hE dX8_advance_51 (Nat.le_refl _) (Nat.le_refl _) ⟨rfl, rfl⟩
    · refine j_iconst hX (-1) dX8_advance_11 (by decide) ?_
      cases hf
      exact j_iret hX hE dX8_advance_12 (Nat.le_refl _) (Nat.le_refl _) ⟨rfl, rfl⟩

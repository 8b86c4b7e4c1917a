-- HammerDepot$State copyFrom (LHammerDepot$State;)V
def f_X8_copyFrom (h_count : Int32) (h_pitches : Nat → Int32) (h_wears : Nat → Int32) (h_slots : Nat → Int32) (h_borrowers : Nat → Int32) (h_dueDays : Nat → Int32) (h_contents : Nat → Int32) (r_count : Int32) (r_nextId : Int32) (r_ids : Nat → Int32) (r_borrowers : Nat → Int32) (r_pitches : Nat → Int32) (r_tolerances : Nat → Int32) (r_firstDays : Nat → Int32) (r_lastDays : Nat → Int32) (b_count : Int32) (b_hammers : Nat → Int32) (b_borrowers : Nat → Int32) (b_firstDays : Nat → Int32) (b_lastDays : Nat → Int32) (s_day : Int32) (s_coins : Int32) (s_bookingCoins : Int32) (s_lateCoins : Int32) (s_faceCosts : Int32) (s_broken : Int32) (s_lent : Int32) (nh_count : Int32) (nh_pitches : Nat → Int32) (nh_wears : Nat → Int32) (nh_slots : Nat → Int32) (nh_borrowers : Nat → Int32) (nh_dueDays : Nat → Int32) (nh_contents : Nat → Int32) (nr_count : Int32) (nr_nextId : Int32) (nr_ids : Nat → Int32) (nr_borrowers : Nat → Int32) (nr_pitches : Nat → Int32) (nr_tolerances : Nat → Int32) (nr_firstDays : Nat → Int32) (nr_lastDays : Nat → Int32) (nb_count : Int32) (nb_hammers : Nat → Int32) (nb_borrowers : Nat → Int32) (nb_firstDays : Nat → Int32) (nb_lastDays : Nat → Int32) (ns_day : Int32) (ns_coins : Int32) (ns_bookingCoins : Int32) (ns_lateCoins : Int32) (ns_faceCosts : Int32) (ns_broken : Int32) (ns_lent : Int32) : Option (Int32 × (Nat → Int32) × (Nat → Int32) × (Nat → Int32) × (Nat → Int32) × (Nat → Int32) × (Nat → Int32) × Int32 × Int32 × (Nat → Int32) × (Nat → Int32) × (Nat → Int32) × (Nat → Int32) × (Nat → Int32) × (Nat → Int32) × Int32 × (Nat → Int32) × (Nat → Int32) × (Nat → Int32) × (Nat → Int32) × Int32 × Int32 × Int32 × Int32 × Int32 × Int32 × Int32) :=
  Option.bind (f_X2_copyFrom h_count h_pitches h_wears h_slots h_borrowers h_dueDays h_contents nh_count nh_pitches nh_wears nh_slots nh_borrowers nh_dueDays nh_contents) (fun u1 =>
    Option.bind (f_X5_copyFrom r_count r_nextId r_ids r_borrowers r_pitches r_tolerances r_firstDays r_lastDays nr_count nr_nextId nr_ids nr_borrowers nr_pitches nr_tolerances nr_firstDays nr_lastDays) (fun u3 =>
      Option.bind (f_X0_copyFrom b_count b_hammers b_borrowers b_firstDays b_lastDays nb_count nb_hammers nb_borrowers nb_firstDays nb_lastDays) (fun u5 =>
        some (u1.1, u1.2.1, u1.2.2.1, u1.2.2.2.1, u1.2.2.2.2.1, u1.2.2.2.2.2.1, u1.2.2.2.2.2.2, u3.1, u3.2.1, u3.2.2.1, u3.2.2.2.1, u3.2.2.2.2.1, u3.2.2.2.2.2.1, u3.2.2.2.2.2.2.1, u3.2.2.2.2.2.2.2, u5.1, u5.2.1, u5.2.2.1, u5.2.2.2.1, u5.2.2.2.2, ns_day, ns_coins, ns_bookingCoins, ns_lateCoins, ns_faceCosts, ns_broken, ns_lent))))
set_option maxHeartbeats 4000000 in
set_option maxRecDepth 100000 in
theorem k_X8_copyFrom {l : Launch} {D : va_G} {t : Nat → ClassId} {ad : Nat → Nat} {o o2 : Nat} (h_count : Int32) (h_pitches : Nat → Int32) (h_wears : Nat → Int32) (h_slots : Nat → Int32) (h_borrowers : Nat → Int32) (h_dueDays : Nat → Int32) (h_contents : Nat → Int32) (r_count : Int32) (r_nextId : Int32) (r_ids : Nat → Int32) (r_borrowers : Nat → Int32) (r_pitches : Nat → Int32) (r_tolerances : Nat → Int32) (r_firstDays : Nat → Int32) (r_lastDays : Nat → Int32) (b_count : Int32) (b_hammers : Nat → Int32) (b_borrowers : Nat → Int32) (b_firstDays : Nat → Int32) (b_lastDays : Nat → Int32) (s_day : Int32) (s_coins : Int32) (s_bookingCoins : Int32) (s_lateCoins : Int32) (s_faceCosts : Int32) (s_broken : Int32) (s_lent : Int32) (nh_count : Int32) (nh_pitches : Nat → Int32) (nh_wears : Nat → Int32) (nh_slots : Nat → Int32) (nh_borrowers : Nat → Int32) (nh_dueDays : Nat → Int32) (nh_contents : Nat → Int32) (nr_count : Int32) (nr_nextId : Int32) (nr_ids : Nat → Int32) (nr_borrowers : Nat → Int32) (nr_pitches : Nat → Int32) (nr_tolerances : Nat → Int32) (nr_firstDays : Nat → Int32) (nr_lastDays : Nat → Int32) (nb_count : Int32) (nb_hammers : Nat → Int32) (nb_borrowers : Nat → Int32) (nb_firstDays : Nat → Int32) (nb_lastDays : Nat → Int32) (ns_day : Int32) (ns_coins : Int32) (ns_bookingCoins : Int32) (ns_lateCoins : Int32) (ns_faceCosts : Int32) (ns_broken : Int32) (ns_lent : Int32)  (u : Int32 × (Nat → Int32) × (Nat → Int32) × (Nat → Int32) × (Nat → Int32) × (Nat → Int32) × (Nat → Int32) × Int32 × Int32 × (Nat → Int32) × (Nat → Int32) × (Nat → Int32) × (Nat → Int32) × (Nat → Int32) × (Nat → Int32) × Int32 × (Nat → Int32) × (Nat → Int32) × (Nat → Int32) × (Nat → Int32) × Int32 × Int32 × Int32 × Int32 × Int32 × Int32 × Int32) (hf : f_X8_copyFrom h_count h_pitches h_wears h_slots h_borrowers h_dueDays h_contents r_count r_nextId r_ids r_borrowers r_pitches r_tolerances r_firstDays r_lastDays b_count b_hammers b_borrowers b_firstDays b_lastDays s_day s_coins s_bookingCoins s_lateCoins s_faceCosts s_broken s_lent nh_count nh_pitches nh_wears nh_slots nh_borrowers nh_dueDays nh_contents nr_count nr_nextId nr_ids nr_borrowers nr_pitches nr_tolerances nr_firstDays nr_lastDays nb_count nb_hammers nb_borrowers nb_firstDays nb_lastDays ns_day ns_coins ns_bookingCoins ns_lateCoins ns_faceCosts ns_broken ns_lent = some u) : cm l D (jT t) yX8_copyFrom cX8_copyFrom 2 none { frames := 2, cells := 0, slots := 0, locals := 82 } [.ref (ad o), .ref (ad o2)] (wS t ad o h_count h_pitches h_wears h_slots h_borrowers h_dueDays h_contents r_count r_nextId r_ids r_borrowers r_pitches r_tolerances r_firstDays r_lastDays b_count b_hammers b_borrowers b_firstDays b_lastDays s_day s_coins s_bookingCoins s_lateCoins s_faceCosts s_broken s_lent ++ (wS t ad o2 nh_count nh_pitches nh_wears nh_slots nh_borrowers nh_dueDays nh_contents nr_count nr_nextId nr_ids nr_borrowers nr_pitches nr_tolerances nr_firstDays nr_lastDays nb_count nb_hammers nb_borrowers nb_firstDays nb_lastDays ns_day ns_coins ns_bookingCoins ns_lateCoins ns_faceCosts ns_broken ns_lent)) (fun v w => v = none ∧ w = wS t ad o u.1 u.2.1 u.2.2.1 u.2.2.2.1 u.2.2.2.2.1 u.2.2.2.2.2.1 u.2.2.2.2.2.2.1 u.2.2.2.2.2.2.2.1 u.2.2.2.2.2.2.2.2.1 u.2.2.2.2.2.2.2.2.2.1 u.2.2.2.2.2.2.2.2.2.2.1 u.2.2.2.2.2.2.2.2.2.2.2.1 u.2.2.2.2.2.2.2.2.2.2.2.2.1 u.2.2.2.2.2.2.2.2.2.2.2.2.2.1 u.2.2.2.2.2.2.2.2.2.2.2.2.2.2.1 u.2.2.2.2.2.2.2.2.2.2.2.2.2.2.2.1 u.2.2.2.2.2.2.2.2.2.2.2.2.2.2.2.2.1 u.2.2.2.2.2.2.2.2.2.2.2.2.2.2.2.2.2.1 u.2.2.2.2.2.2.2.2.2.2.2.2.2.2.2.2.2.2.1 u.2.2.2.2.2.2.2.2.2.2.2.2.2.2.2.2.2.2.2.1 u.2.2.2.2.2.2.2.2.2.2.2.2.2.2.2.2.2.2.2.2.1 u.2.2.2.2.2.2.2.2.2.2.2.2.2.2.2.2.2.2.2.2.2.1 u.2.2.2.2.2.2.2.2.2.2.2.2.2.2.2.2.2.2.2.2.2.2.1 u.2.2.2.2.2.2.2.2.2.2.2.2.2.2.2.2.2.2.2.2.2.2.2.1 u.2.2.2.2.2.2.2.2.2.2.2.2.2.2.2.2.2.2.2.2.2.2.2.2.1 u.2.2.2.2.2.2.2.2.2.2.2.2.2.2.2.2.2.2.2.2.2.2.2.2.2.1 u.2.2.2.2.2.2.2.2.2.2.2.2.2.2.2.2.2.2.2.2.2.2.2.2.2.2 ++ (wS t ad o2 nh_count nh_pitches nh_wears nh_slots nh_borrowers nh_dueDays nh_contents nr_count nr_nextId nr_ids nr_borrowers nr_pitches nr_tolerances nr_firstDays nr_lastDays nb_count nb_hammers nb_borrowers nb_firstDays nb_lastDays ns_day ns_coins ns_bookingCoins ns_lateCoins ns_faceCosts ns_broken ns_lent)) := by
  refine cm_of RX8 rfl (by decide +kernel) (Nat.le_of_ble_eq_true rfl) (fun X hX hE => ?_)
  change J X 0 0 (wS t ad o h_count h_pitches h_wears h_slots h_borrowers h_dueDays h_contents r_count r_nextId r_ids r_borrowers r_pitches r_tolerances r_firstDays r_lastDays b_count b_hammers b_borrowers b_firstDays b_lastDays s_day s_coins s_bookingCoins s_lateCoins s_faceCosts s_broken s_lent ++ (wS t ad o2 nh_count nh_pitches nh_wears nh_slots nh_borrowers nh_dueDays nh_contents nr_count nr_nextId nr_ids nr_borrowers nr_pitches nr_tolerances nr_firstDays nr_lastDays nb_count nb_hammers nb_borrowers nb_firstDays nb_lastDays ns_day ns_coins ns_bookingCoins ns_lateCoins ns_faceCosts ns_broken ns_lent)) 0 [(0, .ref (ad o)), (1, .ref (ad o2))] []
  unfold f_X8_copyFrom at hf
  refine j_aload_n hX dX8_copyFrom_0 rfl 0 rfl ?_
  refine j_get hX dX8_copyFrom_1 inX8 0 q90 0 rfl rfl (by decide) rfl rfl ?_
  refine j_aload_n hX dX8_copyFrom_4 rfl 1 rfl ?_
  refine j_get hX dX8_copyFrom_5 inX8 0 q90 20 rfl rfl (by decide) rfl rfl ?_
  obtain ⟨u1, h2, hf⟩ := jbind hf
  refine j_two hX (fun x y : va_W => (frS_hammers t ad o r_count r_nextId r_ids r_borrowers r_pitches r_tolerances r_firstDays r_lastDays b_count b_hammers b_borrowers b_firstDays b_lastDays s_day s_coins s_bookingCoins s_lateCoins s_faceCosts s_broken s_lent) x ++ (frS_hammers t ad o2 nr_count nr_nextId nr_ids nr_borrowers nr_pitches nr_tolerances nr_firstDays nr_lastDays nb_count nb_hammers nb_borrowers nb_firstDays nb_lastDays ns_day ns_coins ns_bookingCoins ns_lateCoins ns_faceCosts ns_broken ns_lent) y) (jFr2_of (frS_hammers_ok t ad o r_count r_nextId r_ids r_borrowers r_pitches r_tolerances r_firstDays r_lastDays b_count b_hammers b_borrowers b_firstDays b_lastDays s_day s_coins s_bookingCoins s_lateCoins s_faceCosts s_broken s_lent) (frS_hammers_ok t ad o2 nr_count nr_nextId nr_ids nr_borrowers nr_pitches nr_tolerances nr_firstDays nr_lastDays nb_count nb_hammers nb_borrowers nb_firstDays nb_lastDays ns_day ns_coins ns_bookingCoins ns_lateCoins ns_faceCosts ns_broken ns_lent)) (wH t ad (o + 1) h_count h_pitches h_wears h_slots h_borrowers h_dueDays h_contents) (wH t ad (o2 + 1) nh_count nh_pitches nh_wears nh_slots nh_borrowers nh_dueDays nh_contents) rfl (fun rest hback => ?_)
  refine j_callV (st := []) hX (k_X2_copyFrom (l := l) (D := D) (t := t) (ad := ad) (o := o + 1) (o2 := o2 + 1) h_count h_pitches h_wears h_slots h_borrowers h_dueDays h_contents nh_count nh_pitches nh_wears nh_slots nh_borrowers nh_dueDays nh_contents  u1 h2) q204 q205 q206 q3 q207 (n9 := 1) rfl ⟨by decide +kernel, by decide +kernel⟩ 0 rfl rfl rfl dX8_copyFrom_8 (Nat.le_of_ble_eq_true rfl) ⟨Nat.le_refl _, Nat.le_refl _⟩ (fun w : va_W => w ++ rest) (jFr_r rest) rfl rfl (fun v w hvw => ?_)
  obtain ⟨rfl, rfl⟩ := hvw
  change J X 0 0 (((wH t ad (o + 1) u1.1 u1.2.1 u1.2.2.1 u1.2.2.2.1 u1.2.2.2.2.1 u1.2.2.2.2.2.1 u1.2.2.2.2.2.2) ++ (wH t ad (o2 + 1) nh_count nh_pitches nh_wears nh_slots nh_borrowers nh_dueDays nh_contents)) ++ rest) 11 [(0, .ref (ad o)), (1, .ref (ad o2))] []
  refine hback _ _ _ _ _ _ _ ?_
  change J X 0 0 (wS t ad o u1.1 u1.2.1 u1.2.2.1 u1.2.2.2.1 u1.2.2.2.2.1 u1.2.2.2.2.2.1 u1.2.2.2.2.2.2 r_count r_nextId r_ids r_borrowers r_pitches r_tolerances r_firstDays r_lastDays b_count b_hammers b_borrowers b_firstDays b_lastDays s_day s_coins s_bookingCoins s_lateCoins s_faceCosts s_broken s_lent ++ (wS t ad o2 nh_count nh_pitches nh_wears nh_slots nh_borrowers nh_dueDays nh_contents nr_count nr_nextId nr_ids nr_borrowers nr_pitches nr_tolerances nr_firstDays nr_lastDays nb_count nb_hammers nb_borrowers nb_firstDays nb_lastDays ns_day ns_coins ns_bookingCoins ns_lateCoins ns_faceCosts ns_broken ns_lent)) 11 [(0, .ref (ad o)), (1, .ref (ad o2))] []
  refine j_aload_n hX dX8_copyFrom_11 rfl 0 rfl ?_
  refine j_get hX dX8_copyFrom_12 inX8 1 q93 0 rfl rfl (by decide) rfl rfl ?_
  refine j_aload_n hX dX8_copyFrom_15 rfl 1 rfl ?_
  refine j_get hX dX8_copyFrom_16 inX8 1 q93 20 rfl rfl (by decide) rfl rfl ?_
  obtain ⟨u3, h4, hf⟩ := jbind hf
  refine j_two hX (fun x y : va_W => (frS_requests t ad o u1.1 u1.2.1 u1.2.2.1 u1.2.2.2.1 u1.2.2.2.2.1 u1.2.2.2.2.2.1 u1.2.2.2.2.2.2 b_count b_hammers b_borrowers b_firstDays b_lastDays s_day s_coins s_bookingCoins s_lateCoins s_faceCosts s_broken s_lent) x ++ (frS_requests t ad o2 nh_count nh_pitches nh_wears nh_slots nh_borrowers nh_dueDays nh_contents nb_count nb_hammers nb_borrowers nb_firstDays nb_lastDays ns_day ns_coins ns_bookingCoins ns_lateCoins ns_faceCosts ns_broken ns_lent) y) (jFr2_of (frS_requests_ok t ad o u1.1 u1.2.1 u1.2.2.1 u1.2.2.2.1 u1.2.2.2.2.1 u1.2.2.2.2.2.1 u1.2.2.2.2.2.2 b_count b_hammers b_borrowers b_firstDays b_lastDays s_day s_coins s_bookingCoins s_lateCoins s_faceCosts s_broken s_lent) (frS_requests_ok t ad o2 nh_count nh_pitches nh_wears nh_slots nh_borrowers nh_dueDays nh_contents nb_count nb_hammers nb_borrowers nb_firstDays nb_lastDays ns_day ns_coins ns_bookingCoins ns_lateCoins ns_faceCosts ns_broken ns_lent)) (wR t ad (o + 8) r_count r_nextId r_ids r_borrowers r_pitches r_tolerances r_firstDays r_lastDays) (wR t ad (o2 + 8) nr_count nr_nextId nr_ids nr_borrowers nr_pitches nr_tolerances nr_firstDays nr_lastDays) rfl (fun rest hback => ?_)
  refine j_callV (st := []) hX (k_X5_copyFrom (l := l) (D := D) (t := t) (ad := ad) (o := o + 8) (o2 := o2 + 8) r_count r_nextId r_ids r_borrowers r_pitches r_tolerances r_firstDays r_lastDays nr_count nr_nextId nr_ids nr_borrowers nr_pitches nr_tolerances nr_firstDays nr_lastDays  u3 h4) q211 q212 q213 q5 q214 (n9 := 1) rfl ⟨by decide +kernel, by decide +kernel⟩ 0 rfl rfl rfl dX8_copyFrom_19 (Nat.le_of_ble_eq_true rfl) ⟨Nat.le_refl _, Nat.le_refl _⟩ (fun w : va_W => w ++ rest) (jFr_r rest) rfl rfl (fun v w hvw => ?_)
  obtain ⟨rfl, rfl⟩ := hvw
  change J X 0 0 (((wR t ad (o + 8) u3.1 u3.2.1 u3.2.2.1 u3.2.2.2.1 u3.2.2.2.2.1 u3.2.2.2.2.2.1 u3.2.2.2.2.2.2.1 u3.2.2.2.2.2.2.2) ++ (wR t ad (o2 + 8) nr_count nr_nextId nr_ids nr_borrowers nr_pitches nr_tolerances nr_firstDays nr_lastDays)) ++ rest) 22 [(0, .ref (ad o)), (1, .ref (ad o2))] []
  refine hback _ _ _ _ _ _ _ ?_
  change J X 0 0 (wS t ad o u1.1 u1.2.1 u1.2.2.1 u1.2.2.2.1 u1.2.2.2.2.1 u1.2.2.2.2.2.1 u1.2.2.2.2.2.2 u3.1 u3.2.1 u3.2.2.1 u3.2.2.2.1 u3.2.2.2.2.1 u3.2.2.2.2.2.1 u3.2.2.2.2.2.2.1 u3.2.2.2.2.2.2.2 b_count b_hammers b_borrowers b_firstDays b_lastDays s_day s_coins s_bookingCoins s_lateCoins s_faceCosts s_broken s_lent ++ (wS t ad o2 nh_count nh_pitches nh_wears nh_slots nh_borrowers nh_dueDays nh_contents nr_count nr_nextId nr_ids nr_borrowers nr_pitches nr_tolerances nr_firstDays nr_lastDays nb_count nb_hammers nb_borrowers nb_firstDays nb_lastDays ns_day ns_coins ns_bookingCoins ns_lateCoins ns_faceCosts ns_broken ns_lent)) 22 [(0, .ref (ad o)), (1, .ref (ad o2))] []
  refine j_aload_n hX dX8_copyFrom_22 rfl 0 rfl ?_
  refine j_get hX dX8_copyFrom_23 inX8 2 q96 0 rfl rfl (by decide) rfl rfl ?_
  refine j_aload_n hX dX8_copyFrom_26 rfl 1 rfl ?_
  refine j_get hX dX8_copyFrom_27 inX8 2 q96 20 rfl rfl (by decide) rfl rfl ?_
  obtain ⟨u5, h6, hf⟩ := jbind hf
  refine j_two hX (fun x y : va_W => (frS_bookings t ad o u1.1 u1.2.1 u1.2.2.1 u1.2.2.2.1 u1.2.2.2.2.1 u1.2.2.2.2.2.1 u1.2.2.2.2.2.2 u3.1 u3.2.1 u3.2.2.1 u3.2.2.2.1 u3.2.2.2.2.1 u3.2.2.2.2.2.1 u3.2.2.2.2.2.2.1 u3.2.2.2.2.2.2.2 s_day s_coins s_bookingCoins s_lateCoins s_faceCosts s_broken s_lent) x ++ (frS_bookings t ad o2 nh_count nh_pitches nh_wears nh_slots nh_borrowers nh_dueDays nh_contents nr_count nr_nextId nr_ids nr_borrowers nr_pitches nr_tolerances nr_firstDays nr_lastDays ns_day ns_coins ns_bookingCoins ns_lateCoins ns_faceCosts ns_broken ns_lent) y) (jFr2_of (frS_bookings_ok t ad o u1.1 u1.2.1 u1.2.2.1 u1.2.2.2.1 u1.2.2.2.2.1 u1.2.2.2.2.2.1 u1.2.2.2.2.2.2 u3.1 u3.2.1 u3.2.2.1 u3.2.2.2.1 u3.2.2.2.2.1 u3.2.2.2.2.2.1 u3.2.2.2.2.2.2.1 u3.2.2.2.2.2.2.2 s_day s_coins s_bookingCoins s_lateCoins s_faceCosts s_broken s_lent) (frS_bookings_ok t ad o2 nh_count nh_pitches nh_wears nh_slots nh_borrowers nh_dueDays nh_contents nr_count nr_nextId nr_ids nr_borrowers nr_pitches nr_tolerances nr_firstDays nr_lastDays ns_day ns_coins ns_bookingCoins ns_lateCoins ns_faceCosts ns_broken ns_lent)) (wB t ad (o + 15) b_count b_hammers b_borrowers b_firstDays b_lastDays) (wB t ad (o2 + 15) nb_count nb_hammers nb_borrowers nb_firstDays nb_lastDays) rfl (fun rest hback => ?_)
  refine j_callV (st := []) hX (k_X0_copyFrom (l := l) (D := D) (t := t) (ad := ad) (o := o + 15) (o2 := o2 + 15) b_count b_hammers b_borrowers b_firstDays b_lastDays nb_count nb_hammers nb_borrowers nb_firstDays nb_lastDays  u5 h6) q216 q217 q218 q6 q219 (n9 := 1) rfl ⟨by decide +kernel, by decide +kernel⟩ 0 rfl rfl rfl dX8_copyFrom_30 (Nat.le_of_ble_eq_true rfl) ⟨Nat.le_refl _, Nat.le_refl _⟩ (fun w : va_W => w ++ rest) (jFr_r rest) rfl rfl (fun v w hvw => ?_)
  obtain ⟨rfl, rfl⟩ := hvw
  change J X 0 0 (((wB t ad (o + 15) u5.1 u5.2.1 u5.2.2.1 u5.2.2.2.1 u5.2.2.2.2) ++ (wB t ad (o2 + 15) nb_count nb_hammers nb_borrowers nb_firstDays nb_lastDays)) ++ rest) 33 [(0, .ref (ad o)), (1, .ref (ad o2))] []
  refine hback _ _ _ _ _ _ _ ?_
  change J X 0 0 (wS t ad o u1.1 u1.2.1 u1.2.2.1 u1.2.2.2.1 u1.2.2.2.2.1 u1.2.2.2.2.2.1 u1.2.2.2.2.2.2 u3.1 u3.2.1 u3.2.2.1 u3.2.2.2.1 u3.2.2.2.2.1 u3.2.2.2.2.2.1 u3.2.2.2.2.2.2.1 u3.2.2.2.2.2.2.2 u5.1 u5.2.1 u5.2.2.1 u5.2.2.2.1 u5.2.2.2.2 s_day s_coins s_bookingCoins s_lateCoins s_faceCosts s_broken s_lent ++ (wS t ad o2 nh_count nh_pitches nh_wears nh_slots nh_borrowers nh_dueDays nh_contents nr_count nr_nextId nr_ids nr_borrowers nr_pitches nr_tolerances nr_firstDays nr_lastDays nb_count nb_hammers nb_borrowers nb_firstDays nb_lastDays ns_day ns_coins ns_bookingCoins ns_lateCoins ns_faceCosts ns_broken ns_lent)) 33 [(0, .ref (ad o)), (1, .ref (ad o2))] []
  refine j_aload_n hX dX8_copyFrom_33 rfl 0 rfl ?_
  refine j_aload_n hX dX8_copyFrom_34 rfl 1 rfl ?_
  refine j_get hX dX8_copyFrom_35 inX8 3 q98 20 rfl rfl (by decide) rfl rfl ?_
  refine j_put hX (wS t ad o u1.1 u1.2.1 u1.2.2.1 u1.2.2.2.1 u1.2.2.2.2.1 u1.2.2.2.2.2.1 u1.2.2.2.2.2.2 u3.1 u3.2.1 u3.2.2.1 u3.2.2.2.1 u3.2.2.2.2.1 u3.2.2.2.2.2.1 u3.2.2.2.2.2.2.1 u3.2.2.2.2.2.2.2 u5.1 u5.2.1 u5.2.2.1 u5.2.2.2.1 u5.2.2.2.2 ns_day s_coins s_bookingCoins s_lateCoins s_faceCosts s_broken s_lent ++ (wS t ad o2 nh_count nh_pitches nh_wears nh_slots nh_borrowers nh_dueDays nh_contents nr_count nr_nextId nr_ids nr_borrowers nr_pitches nr_tolerances nr_firstDays nr_lastDays nb_count nb_hammers nb_borrowers nb_firstDays nb_lastDays ns_day ns_coins ns_bookingCoins ns_lateCoins ns_faceCosts ns_broken ns_lent)) tyX8 dX8_copyFrom_38 inX8 tyX8_ok nmX8 3 q98 0 rfl rfl (by decide) rfl rfl rfl rfl rfl (Nat.le_of_ble_eq_true rfl) rfl ?_
  refine j_aload_n hX dX8_copyFrom_41 rfl 0 rfl ?_
  refine j_aload_n hX dX8_copyFrom_42 rfl 1 rfl ?_
  refine j_get hX dX8_copyFrom_43 inX8 4 q100 20 rfl rfl (by decide) rfl rfl ?_
  refine j_put hX (wS t ad o u1.1 u1.2.1 u1.2.2.1 u1.2.2.2.1 u1.2.2.2.2.1 u1.2.2.2.2.2.1 u1.2.2.2.2.2.2 u3.1 u3.2.1 u3.2.2.1 u3.2.2.2.1 u3.2.2.2.2.1 u3.2.2.2.2.2.1 u3.2.2.2.2.2.2.1 u3.2.2.2.2.2.2.2 u5.1 u5.2.1 u5.2.2.1 u5.2.2.2.1 u5.2.2.2.2 ns_day ns_coins s_bookingCoins s_lateCoins s_faceCosts s_broken s_lent ++ (wS t ad o2 nh_count nh_pitches nh_wears nh_slots nh_borrowers nh_dueDays nh_contents nr_count nr_nextId nr_ids nr_borrowers nr_pitches nr_tolerances nr_firstDays nr_lastDays nb_count nb_hammers nb_borrowers nb_firstDays nb_lastDays ns_day ns_coins ns_bookingCoins ns_lateCoins ns_faceCosts ns_broken ns_lent)) tyX8 dX8_copyFrom_46 inX8 tyX8_ok nmX8 4 q100 0 rfl rfl (by decide) rfl rfl rfl rfl rfl (Nat.le_of_ble_eq_true rfl) rfl ?_
  refine j_aload_n hX dX8_copyFrom_49 rfl 0 rfl ?_
  refine j_aload_n hX dX8_copyFrom_50 rfl 1 rfl ?_
  refine j_get hX dX8_copyFrom_51 inX8 5 q102 20 rfl rfl (by decide) rfl rfl ?_
  refine j_put hX (wS t ad o u1.1 u1.2.1 u1.2.2.1 u1.2.2.2.1 u1.2.2.2.2.1 u1.2.2.2.2.2.1 u1.2.2.2.2.2.2 u3.1 u3.2.1 u3.2.2.1 u3.2.2.2.1 u3.2.2.2.2.1 u3.2.2.2.2.2.1 u3.2.2.2.2.2.2.1 u3.2.2.2.2.2.2.2 u5.1 u5.2.1 u5.2.2.1 u5.2.2.2.1 u5.2.2.2.2 ns_day ns_coins ns_bookingCoins s_lateCoins s_faceCosts s_broken s_lent ++ (wS t ad o2 nh_count nh_pitches nh_wears nh_slots nh_borrowers nh_dueDays nh_contents nr_count nr_nextId nr_ids nr_borrowers nr_pitches nr_tolerances nr_firstDays nr_lastDays nb_count nb_hammers nb_borrowers nb_firstDays nb_lastDays ns_day ns_coins ns_bookingCoins ns_lateCoins ns_faceCosts ns_broken ns_lent)) tyX8 dX8_copyFrom_54 inX8 tyX8_ok nmX8 5 q102 0 rfl rfl (by decide) rfl rfl rfl rfl rfl (Nat.le_of_ble_eq_true rfl) rfl ?_
  refine j_aload_n hX dX8_copyFrom_57 rfl 0 rfl ?_
  refine j_aload_n hX dX8_copyFrom_58 rfl 1 rfl ?_
  refine j_get hX dX8_copyFrom_59 inX8 6 q104 20 rfl rfl (by decide) rfl rfl ?_
  refine j_put hX (wS t ad o u1.1 u1.2.1 u1.2.2.1 u1.2.2.2.1 u1.2.2.2.2.1 u1.2.2.2.2.2.1 u1.2.2.2.2.2.2 u3.1 u3.2.1 u3.2.2.1 u3.2.2.2.1 u3.2.2.2.2.1 u3.2.2.2.2.2.1 u3.2.2.2.2.2.2.1 u3.2.2.2.2.2.2.2 u5.1 u5.2.1 u5.2.2.1 u5.2.2.2.1 u5.2.2.2.2 ns_day ns_coins ns_bookingCoins ns_lateCoins s_faceCosts s_broken s_lent ++ (wS t ad o2 nh_count nh_pitches nh_wears nh_slots nh_borrowers nh_dueDays nh_contents nr_count nr_nextId nr_ids nr_borrowers nr_pitches nr_tolerances nr_firstDays nr_lastDays nb_count nb_hammers nb_borrowers nb_firstDays nb_lastDays ns_day ns_coins ns_bookingCoins ns_lateCoins ns_faceCosts ns_broken ns_lent)) tyX8 dX8_copyFrom_62 inX8 tyX8_ok nmX8 6 q104 0 rfl rfl (by decide) rfl rfl rfl rfl rfl (Nat.le_of_ble_eq_true rfl) rfl ?_
  refine j_aload_n hX dX8_copyFrom_65 rfl 0 rfl ?_
  refine j_aload_n hX dX8_copyFrom_66 rfl 1 rfl ?_
  refine j_get hX dX8_copyFrom_67 inX8 7 q106 20 rfl rfl (by decide) rfl rfl ?_
  refine j_put hX (wS t ad o u1.1 u1.2.1 u1.2.2.1 u1.2.2.2.1 u1.2.2.2.2.1 u1.2.2.2.2.2.1 u1.2.2.2.2.2.2 u3.1 u3.2.1 u3.2.2.1 u3.2.2.2.1 u3.2.2.2.2.1 u3.2.2.2.2.2.1 u3.2.2.2.2.2.2.1 u3.2.2.2.2.2.2.2 u5.1 u5.2.1 u5.2.2.1 u5.2.2.2.1 u5.2.2.2.2 ns_day ns_coins ns_bookingCoins ns_lateCoins ns_faceCosts s_broken s_lent ++ (wS t ad o2 nh_count nh_pitches nh_wears nh_slots nh_borrowers nh_dueDays nh_contents nr_count nr_nextId nr_ids nr_borrowers nr_pitches nr_tolerances nr_firstDays nr_lastDays nb_count nb_hammers nb_borrowers nb_firstDays nb_lastDays ns_day ns_coins ns_bookingCoins ns_lateCoins ns_faceCosts ns_broken ns_lent)) tyX8 dX8_copyFrom_70 inX8 tyX8_ok nmX8 7 q106 0 rfl rfl (by decide) rfl rfl rfl rfl rfl (Nat.le_of_ble_eq_true rfl) rfl ?_
  refine j_aload_n hX dX8_copyFrom_73 rfl 0 rfl ?_
  refine j_aload_n hX dX8_copyFrom_74 rfl 1 rfl ?_
  refine j_get hX dX8_copyFrom_75 inX8 8 q108 20 rfl rfl (by decide) rfl rfl ?_
  refine j_put hX (wS t ad o u1.1 u1.2.1 u1.2.2.1 u1.2.2.2.1 u1.2.2.2.2.1 u1.2.2.2.2.2.1 u1.2.2.2.2.2.2 u3.1 u3.2.1 u3.2.2.1 u3.2.2.2.1 u3.2.2.2.2.1 u3.2.2.2.2.2.1 u3.2.2.2.2.2.2.1 u3.2.2.2.2.2.2.2 u5.1 u5.2.1 u5.2.2.1 u5.2.2.2.1 u5.2.2.2.2 ns_day ns_coins ns_bookingCoins ns_lateCoins ns_faceCosts ns_broken s_lent ++ (wS t ad o2 nh_count nh_pitches nh_wears nh_slots nh_borrowers nh_dueDays nh_contents nr_count nr_nextId nr_ids nr_borrowers nr_pitches nr_tolerances nr_firstDays nr_lastDays nb_count nb_hammers nb_borrowers nb_firstDays nb_lastDays ns_day ns_coins ns_bookingCoins ns_lateCoins ns_faceCosts ns_broken ns_lent)) tyX8 dX8_copyFrom_78 inX8 tyX8_ok nmX8 8 q108 0 rfl rfl (by decide) rfl rfl rfl rfl rfl (Nat.le_of_ble_eq_true rfl) rfl ?_
  refine j_aload_n hX dX8_copyFrom_81 rfl 0 rfl ?_
  refine j_aload_n hX dX8_copyFrom_82 rfl 1 rfl ?_
  refine j_get hX dX8_copyFrom_83 inX8 9 q110 20 rfl rfl (by decide) rfl rfl ?_
  refine j_put hX (wS t ad o u1.1 u1.2.1 u1.2.2.1 u1.2.2.2.1 u1.2.2.2.2.1 u1.2.2.2.2.2.1 u1.2.2.2.2.2.2 u3.1 u3.2.1 u3.2.2.1 u3.2.2.2.1 u3.2.2.2.2.1 u3.2.2.2.2.2.1 u3.2.2.2.2.2.2.1 u3.2.2.2.2.2.2.2 u5.1 u5.2.1 u5.2.2.1 u5.2.2.2.1 u5.2.2.2.2 ns_day ns_coins ns_bookingCoins ns_lateCoins ns_faceCosts ns_broken ns_lent ++ (wS t ad o2 nh_count nh_pitches nh_wears nh_slots nh_borrowers nh_dueDays nh_contents nr_count nr_nextId nr_ids nr_borrowers nr_pitches nr_tolerances nr_firstDays nr_lastDays nb_count nb_hammers nb_borrowers nb_firstDays nb_lastDays ns_day ns_coins ns_bookingCoins ns_lateCoins ns_faceCosts ns_broken ns_lent)) tyX8 dX8_copyFrom_86 inX8 tyX8_ok nmX8 9 q110 0 rfl rfl (by decide) rfl rfl rfl rfl rfl (Nat.le_of_ble_eq_true rfl) rfl ?_
  cases hf
  exact j_vret hX hE dX8_copyFrom_89 (Nat.le_refl _) (Nat.le_refl _) ⟨rfl, rfl⟩
-- HammerDepot$State enlist (II)I
def f_X8_enlist (h_count : Int32) (h_pitches : Nat → Int32) (h_wears : Nat → Int32) (h_slots : Nat → Int32) (h_contents : Nat → Int32) (a0 : Int32) (a1 : Int32) : Option (Int32 × Int32 × (Nat → Int32) × (Nat → Int32) × (Nat → Int32) × (Nat → Int32)) :=
  if a0 < 0 then
    some ((-1), h_count, h_pitches, h_wears, h_slots, h_contents)
  else
    if a0 ≤ 60 then
      Option.bind (f_X9_isRack a1) (fun u1 =>
        if u1 = 0 then
          some ((-2), h_count, h_pitches, h_wears, h_slots, h_contents)
        else
          Option.bind (f_X2_freePlaceOf h_contents a1) (fun u3 =>
            Option.bind (f_X2_isFull h_count) (fun u5 =>
              if u5 = 0 then
                if u3 = (-1) then
                  some ((-3), h_count, h_pitches, h_wears, h_slots, h_contents)
                else
                  Option.bind (f_X2_add h_count h_pitches h_wears h_slots a0) (fun u7 =>
                    Option.bind (f_X2_setContent u7.2.1 u7.2.2.2.2 h_contents a1 u3 u7.1) (fun u9 =>
                      some (u7.1, u7.2.1, u7.2.2.1, u7.2.2.2.1, u9.1, u9.2)))
              else
                some ((-3), h_count, h_pitches, h_wears, h_slots, h_contents))))
    else
      some ((-1), h_count, h_pitches, h_wears, h_slots, h_contents)
set_option maxHeartbeats 4000000 in
set_option maxRecDepth 100000 in
theorem k_X8_enlist {l : Launch} {D : va_G} {t : Nat → ClassId} {ad : Nat → Nat} {o : Nat} (h_count : Int32) (h_pitches : Nat → Int32) (h_wears : Nat → Int32) (h_slots : Nat → Int32) (h_borrowers : Nat → Int32) (h_dueDays : Nat → Int32) (h_contents : Nat → Int32) (r_count : Int32) (r_nextId : Int32) (r_ids : Nat → Int32) (r_borrowers : Nat → Int32) (r_pitches : Nat → Int32) (r_tolerances : Nat → Int32) (r_firstDays : Nat → Int32) (r_lastDays : Nat → Int32) (b_count : Int32) (b_hammers : Nat → Int32) (b_borrowers : Nat → Int32) (b_firstDays : Nat → Int32) (b_lastDays : Nat → Int32) (s_day : Int32) (s_coins : Int32) (s_bookingCoins : Int32) (s_lateCoins : Int32) (s_faceCosts : Int32) (s_broken : Int32) (s_lent : Int32) (a0 : Int32) (a1 : Int32) (u : Int32 × Int32 × (Nat → Int32) × (Nat → Int32) × (Nat → Int32) × (Nat → Int32)) (hf : f_X8_enlist h_count h_pitches h_wears h_slots h_contents a0 a1 = some u) : cm l D (jT t) yX8_enlist cX8_enlist 5 (some FieldType.int) { frames := 3, cells := 0, slots := 0, locals := 64 } [.ref (ad o), .int a0, .int a1] (wS t ad o h_count h_pitches h_wears h_slots h_borrowers h_dueDays h_contents r_count r_nextId r_ids r_borrowers r_pitches r_tolerances r_firstDays r_lastDays b_count b_hammers b_borrowers b_firstDays b_lastDays s_day s_coins s_bookingCoins s_lateCoins s_faceCosts s_broken s_lent) (fun v w => v = (some (.int u.1)) ∧ w = wS t ad o u.2.1 u.2.2.1 u.2.2.2.1 u.2.2.2.2.1 h_borrowers h_dueDays u.2.2.2.2.2 r_count r_nextId r_ids r_borrowers r_pitches r_tolerances r_firstDays r_lastDays b_count b_hammers b_borrowers b_firstDays b_lastDays s_day s_coins s_bookingCoins s_lateCoins s_faceCosts s_broken s_lent) := by
  refine cm_of RX8 rfl (by decide +kernel) (Nat.le_of_ble_eq_true rfl) (fun X hX hE => ?_)
  change J X 0 0 (wS t ad o h_count h_pitches h_wears h_slots h_borrowers h_dueDays h_contents r_count r_nextId r_ids r_borrowers r_pitches r_tolerances r_firstDays r_lastDays b_count b_hammers b_borrowers b_firstDays b_lastDays s_day s_coins s_bookingCoins s_lateCoins s_faceCosts s_broken s_lent) 0 [(0, .ref (ad o)), (1, .int a0), (2, .int a1)] []
  unfold f_X8_enlist at hf
  refine j_iload_n hX dX8_enlist_0 rfl 1 rfl ?_
  refine j_if_lt hX 10 dX8_enlist_1 (by decide) hf (fun c1 hf => ?_) (fun c1 hf => ?_)
  · refine j_iconst hX (-1) dX8_enlist_10 (by decide) ?_
    cases hf
    exact j_iret hX hE dX8_enlist_11 (Nat.le_refl _) (Nat.le_refl _) ⟨rfl, rfl⟩
  · refine j_iload_n hX dX8_enlist_4 rfl 1 rfl ?_
    refine j_bipush hX 60 dX8_enlist_5 (by decide) ?_
    refine j_icmp_le hX 12 dX8_enlist_7 (by decide) hf (fun c7 hf => ?_) (fun c7 hf => ?_)
    · refine j_iload_n hX dX8_enlist_12 rfl 2 rfl ?_
      obtain ⟨u1, h2, hf⟩ := jbind hf
      refine j_callSN (st := []) hX (k_X9_isRack (l := l) (D := D) (t := t) (ad := ad)  a1 u1 h2) q618 q544 q1 q545 (n9 := 1) rfl ⟨by decide +kernel, by decide +kernel⟩ dX8_enlist_13 (Nat.le_of_ble_eq_true rfl) ⟨Nat.le_refl _, Nat.le_refl _⟩ (fun w : va_W => w ++ (wS t ad o h_count h_pitches h_wears h_slots h_borrowers h_dueDays h_contents r_count r_nextId r_ids r_borrowers r_pitches r_tolerances r_firstDays r_lastDays b_count b_hammers b_borrowers b_firstDays b_lastDays s_day s_coins s_bookingCoins s_lateCoins s_faceCosts s_broken s_lent)) (jFr_r (wS t ad o h_count h_pitches h_wears h_slots h_borrowers h_dueDays h_contents r_count r_nextId r_ids r_borrowers r_pitches r_tolerances r_firstDays r_lastDays b_count b_hammers b_borrowers b_firstDays b_lastDays s_day s_coins s_bookingCoins s_lateCoins s_faceCosts s_broken s_lent)) rfl rfl (fun v w hvw => ?_)
      obtain ⟨rfl, rfl⟩ := hvw
      change J X 0 0 (wS t ad o h_count h_pitches h_wears h_slots h_borrowers h_dueDays h_contents r_count r_nextId r_ids r_borrowers r_pitches r_tolerances r_firstDays r_lastDays b_count b_hammers b_borrowers b_firstDays b_lastDays s_day s_coins s_bookingCoins s_lateCoins s_faceCosts s_broken s_lent) 16 [(0, .ref (ad o)), (1, .int a0), (2, .int a1)] [.int u1]
      refine j_if_ne hX 22 dX8_enlist_16 (by decide) hf (fun c16 hf => ?_) (fun c16 hf => ?_)
      · refine j_aload_n hX dX8_enlist_22 rfl 0 rfl ?_
        refine j_get hX dX8_enlist_23 inX8 0 q90 0 rfl rfl (by decide) rfl rfl ?_
        refine j_iload_n hX dX8_enlist_26 rfl 2 rfl ?_
        obtain ⟨u3, h4, hf⟩ := jbind hf
        refine j_callV (st := []) hX (k_X2_freePlaceOf (l := l) (D := D) (t := t) (ad := ad) (o := o + 1) h_count h_pitches h_wears h_slots h_borrowers h_dueDays h_contents a1 u3 h4) q619 q620 q621 q3 q622 (n9 := 1) rfl ⟨by decide +kernel, by decide +kernel⟩ 0 rfl rfl rfl dX8_enlist_27 (Nat.le_of_ble_eq_true rfl) ⟨Nat.le_refl _, Nat.le_refl _⟩ (frS_hammers t ad o r_count r_nextId r_ids r_borrowers r_pitches r_tolerances r_firstDays r_lastDays b_count b_hammers b_borrowers b_firstDays b_lastDays s_day s_coins s_bookingCoins s_lateCoins s_faceCosts s_broken s_lent) (frS_hammers_ok t ad o r_count r_nextId r_ids r_borrowers r_pitches r_tolerances r_firstDays r_lastDays b_count b_hammers b_borrowers b_firstDays b_lastDays s_day s_coins s_bookingCoins s_lateCoins s_faceCosts s_broken s_lent) rfl rfl (fun v w hvw => ?_)
        obtain ⟨rfl, rfl⟩ := hvw
        change J X 0 0 (wS t ad o h_count h_pitches h_wears h_slots h_borrowers h_dueDays h_contents r_count r_nextId r_ids r_borrowers r_pitches r_tolerances r_firstDays r_lastDays b_count b_hammers b_borrowers b_firstDays b_lastDays s_day s_coins s_bookingCoins s_lateCoins s_faceCosts s_broken s_lent) 30 [(0, .ref (ad o)), (1, .int a0), (2, .int a1)] [.int u3]
        refine j_istore_n hX [(3, .int u3), (0, .ref (ad o)), (1, .int a0), (2, .int a1)] dX8_enlist_30 rfl (by decide) rfl ?_
        refine j_aload_n hX dX8_enlist_31 rfl 1 rfl ?_
        refine j_get hX dX8_enlist_32 inX8 0 q90 0 rfl rfl (by decide) rfl rfl ?_
        obtain ⟨u5, h6, hf⟩ := jbind hf
        refine j_callV (st := []) hX (k_X2_isFull (l := l) (D := D) (t := t) (ad := ad) (o := o + 1) h_count h_pitches h_wears h_slots h_borrowers h_dueDays h_contents  u5 h6) q624 q625 q626 q3 q627 (n9 := 0) rfl ⟨by decide +kernel, by decide +kernel⟩ 0 rfl rfl rfl dX8_enlist_35 (Nat.le_of_ble_eq_true rfl) ⟨Nat.le_refl _, Nat.le_refl _⟩ (frS_hammers t ad o r_count r_nextId r_ids r_borrowers r_pitches r_tolerances r_firstDays r_lastDays b_count b_hammers b_borrowers b_firstDays b_lastDays s_day s_coins s_bookingCoins s_lateCoins s_faceCosts s_broken s_lent) (frS_hammers_ok t ad o r_count r_nextId r_ids r_borrowers r_pitches r_tolerances r_firstDays r_lastDays b_count b_hammers b_borrowers b_firstDays b_lastDays s_day s_coins s_bookingCoins s_lateCoins s_faceCosts s_broken s_lent) rfl rfl (fun v w hvw => ?_)
        obtain ⟨rfl, rfl⟩ := hvw
        change J X 0 0 (wS t ad o h_count h_pitches h_wears h_slots h_borrowers h_dueDays h_contents r_count r_nextId r_ids r_borrowers r_pitches r_tolerances r_firstDays r_lastDays b_count b_hammers b_borrowers b_firstDays b_lastDays s_day s_coins s_bookingCoins s_lateCoins s_faceCosts s_broken s_lent) 38 [(3, .int u3), (0, .ref (ad o)), (1, .int a0), (2, .int a1)] [.int u5]
        refine j_if_ne hX 46 dX8_enlist_38 (by decide) hf (fun c38 hf => ?_) (fun c38 hf => ?_)
        · refine j_bipush hX (-3) dX8_enlist_46 (by decide) ?_
          cases hf
          exact j_iret hX hE dX8_enlist_48 (Nat.le_refl _) (Nat.le_refl _) ⟨rfl, rfl⟩
        · refine j_iload_n hX dX8_enlist_41 rfl 0 rfl ?_
          refine j_iconst hX (-1) dX8_enlist_42 (by decide) ?_
          refine j_icmp_ne hX 49 dX8_enlist_43 (by decide) hf (fun c43 hf => ?_) (fun c43 hf => ?_)
          · refine j_aload_n hX dX8_enlist_49 rfl 1 rfl ?_
            refine j_get hX dX8_enlist_50 inX8 0 q90 0 rfl rfl (by decide) rfl rfl ?_
            refine j_iload_n hX dX8_enlist_53 rfl 2 rfl ?_
            obtain ⟨u7, h8, hf⟩ := jbind hf
            refine j_callV (st := []) hX (k_X2_add (l := l) (D := D) (t := t) (ad := ad) (o := o + 1) h_count h_pitches h_wears h_slots h_borrowers h_dueDays h_contents a0 u7 h8) q628 q629 q630 q3 q631 (n9 := 1) rfl ⟨by decide +kernel, by decide +kernel⟩ 0 rfl rfl rfl dX8_enlist_54 (Nat.le_of_ble_eq_true rfl) ⟨Nat.le_refl _, Nat.le_refl _⟩ (frS_hammers t ad o r_count r_nextId r_ids r_borrowers r_pitches r_tolerances r_firstDays r_lastDays b_count b_hammers b_borrowers b_firstDays b_lastDays s_day s_coins s_bookingCoins s_lateCoins s_faceCosts s_broken s_lent) (frS_hammers_ok t ad o r_count r_nextId r_ids r_borrowers r_pitches r_tolerances r_firstDays r_lastDays b_count b_hammers b_borrowers b_firstDays b_lastDays s_day s_coins s_bookingCoins s_lateCoins s_faceCosts s_broken s_lent) rfl rfl (fun v w hvw => ?_)
            obtain ⟨rfl, rfl⟩ := hvw
            change J X 0 0 (wS t ad o u7.2.1 u7.2.2.1 u7.2.2.2.1 u7.2.2.2.2 h_borrowers h_dueDays h_contents r_count r_nextId r_ids r_borrowers r_pitches r_tolerances r_firstDays r_lastDays b_count b_hammers b_borrowers b_firstDays b_lastDays s_day s_coins s_bookingCoins s_lateCoins s_faceCosts s_broken s_lent) 57 [(3, .int u3), (0, .ref (ad o)), (1, .int a0), (2, .int a1)] [.int u7.1]
            refine j_istore hX [(4, .int u7.1), (3, .int u3), (0, .ref (ad o)), (1, .int a0), (2, .int a1)] dX8_enlist_57 (by decide) rfl ?_
            refine j_aload_n hX dX8_enlist_59 rfl 2 rfl ?_
            refine j_get hX dX8_enlist_60 inX8 0 q90 0 rfl rfl (by decide) rfl rfl ?_
            refine j_iload_n hX dX8_enlist_63 rfl 4 rfl ?_
            refine j_iload_n hX dX8_enlist_64 rfl 1 rfl ?_
            refine j_iload hX dX8_enlist_65 0 rfl ?_
            obtain ⟨u9, h10, hf⟩ := jbind hf
            refine j_callV (st := []) hX (k_X2_setContent (l := l) (D := D) (t := t) (ad := ad) (o := o + 1) u7.2.1 u7.2.2.1 u7.2.2.2.1 u7.2.2.2.2 h_borrowers h_dueDays h_contents a1 u3 u7.1 u9 h10) q633 q634 q635 q3 q636 (n9 := 3) rfl ⟨by decide +kernel, by decide +kernel⟩ 0 rfl rfl rfl dX8_enlist_67 (Nat.le_of_ble_eq_true rfl) ⟨Nat.le_refl _, Nat.le_refl _⟩ (frS_hammers t ad o r_count r_nextId r_ids r_borrowers r_pitches r_tolerances r_firstDays r_lastDays b_count b_hammers b_borrowers b_firstDays b_lastDays s_day s_coins s_bookingCoins s_lateCoins s_faceCosts s_broken s_lent) (frS_hammers_ok t ad o r_count r_nextId r_ids r_borrowers r_pitches r_tolerances r_firstDays r_lastDays b_count b_hammers b_borrowers b_firstDays b_lastDays s_day s_coins s_bookingCoins s_lateCoins s_faceCosts s_broken s_lent) rfl rfl (fun v w hvw => ?_)
            obtain ⟨rfl, rfl⟩ := hvw
            change J X 0 0 (wS t ad o u7.2.1 u7.2.2.1 u7.2.2.2.1 u9.1 h_borrowers h_dueDays u9.2 r_count r_nextId r_ids r_borrowers r_pitches r_tolerances r_firstDays r_lastDays b_count b_hammers b_borrowers b_firstDays b_lastDays s_day s_coins s_bookingCoins s_lateCoins s_faceCosts s_broken s_lent) 70 [(4, .int u7.1), (3, .int u3), (0, .ref (ad o)), (1, .int a0), (2, .int a1)] []
            refine j_iload hX dX8_enlist_70 0 rfl ?_
            cases hf
            exact j_iret hX hE dX8_enlist_72 (Nat.le_refl _) (Nat.le_refl _) ⟨rfl, rfl⟩
          · refine j_bipush hX (-3) dX8_enlist_46 (by decide) ?_
            cases hf
            exact j_iret hX hE dX8_enlist_48 (Nat.le_refl _) (Nat.le_refl _) ⟨rfl, rfl⟩
      · refine j_bipush hX (-2) dX8_enlist_19 (by decide) ?_
        cases hf
        exact j_iret hX hE dX8_enlist_21 (Nat.le_refl _) (Nat.le_refl _) ⟨rfl, rfl⟩
    · refine j_iconst hX (-1) dX8_enlist_10 (by decide) ?_
      cases hf
      exact j_iret hX hE dX8_enlist_11 (Nat.le_refl _) (Nat.le_refl _) ⟨rfl, rfl⟩
-- HammerDepot$State carry (II)I
def f_X8_carry (h_count : Int32) (h_slots : Nat → Int32) (h_contents : Nat → Int32) (a0 : Int32) (a1 : Int32) : Option (Int32 × (Nat → Int32) × (Nat → Int32)) :=
  Option.bind (f_X2_has h_count a0) (fun u1 =>
    if u1 = 0 then
      some ((-2), h_slots, h_contents)
    else
      Option.bind (f_X9_isRack a1) (fun u3 =>
        if u3 = 0 then
          some ((-2), h_slots, h_contents)
        else
          Option.bind (f_X2_freePlaceOf h_contents a1) (fun u5 =>
            Option.bind (f_X2_isAway h_count h_slots a0) (fun u7 =>
              if u7 = 0 then
                Option.bind (f_X2_slotOf h_count h_slots a0) (fun u9 =>
                  if (u9 / 6) = a1 then
                    some ((-3), h_slots, h_contents)
                  else
                    if u5 = (-1) then
                      some ((-3), h_slots, h_contents)
                    else
                      Option.bind (f_X2_takeOut h_count h_slots h_contents a0) (fun u11 =>
                        Option.bind (f_X2_setContent h_count u11.1 u11.2 a1 u5 a0) (fun u13 =>
                          some (u5, u13.1, u13.2))))
              else
                some ((-3), h_slots, h_contents)))))
set_option maxHeartbeats 4000000 in
set_option maxRecDepth 100000 in
theorem k_X8_carry {l : Launch} {D : va_G} {t : Nat → ClassId} {ad : Nat → Nat} {o : Nat} (h_count : Int32) (h_pitches : Nat → Int32) (h_wears : Nat → Int32) (h_slots : Nat → Int32) (h_borrowers : Nat → Int32) (h_dueDays : Nat → Int32) (h_contents : Nat → Int32) (r_count : Int32) (r_nextId : Int32) (r_ids : Nat → Int32) (r_borrowers : Nat → Int32) (r_pitches : Nat → Int32) (r_tolerances : Nat → Int32) (r_firstDays : Nat → Int32) (r_lastDays : Nat → Int32) (b_count : Int32) (b_hammers : Nat → Int32) (b_borrowers : Nat → Int32) (b_firstDays : Nat → Int32) (b_lastDays : Nat → Int32) (s_day : Int32) (s_coins : Int32) (s_bookingCoins : Int32) (s_lateCoins : Int32) (s_faceCosts : Int32) (s_broken : Int32) (s_lent : Int32) (a0 : Int32) (a1 : Int32) (u : Int32 × (Nat → Int32) × (Nat → Int32)) (hf : f_X8_carry h_count h_slots h_contents a0 a1 = some u) : cm l D (jT t) yX8_carry cX8_carry 4 (some FieldType.int) { frames := 3, cells := 0, slots := 0, locals := 64 } [.ref (ad o), .int a0, .int a1] (wS t ad o h_count h_pitches h_wears h_slots h_borrowers h_dueDays h_contents r_count r_nextId r_ids r_borrowers r_pitches r_tolerances r_firstDays r_lastDays b_count b_hammers b_borrowers b_firstDays b_lastDays s_day s_coins s_bookingCoins s_lateCoins s_faceCosts s_broken s_lent) (fun v w => v = (some (.int u.1)) ∧ w = wS t ad o h_count h_pitches h_wears u.2.1 h_borrowers h_dueDays u.2.2 r_count r_nextId r_ids r_borrowers r_pitches r_tolerances r_firstDays r_lastDays b_count b_hammers b_borrowers b_firstDays b_lastDays s_day s_coins s_bookingCoins s_lateCoins s_faceCosts s_broken s_lent) := by
  refine cm_of RX8 rfl (by decide +kernel) (Nat.le_of_ble_eq_true rfl) (fun X hX hE => ?_)
  change J X 0 0 (wS t ad o h_count h_pitches h_wears h_slots h_borrowers h_dueDays h_contents r_count r_nextId r_ids r_borrowers r_pitches r_tolerances r_firstDays r_lastDays b_count b_hammers b_borrowers b_firstDays b_lastDays s_day s_coins s_bookingCoins s_lateCoins s_faceCosts s_broken s_lent) 0 [(0, .ref (ad o)), (1, .int a0), (2, .int a1)] []
  unfold f_X8_carry at hf
  refine j_aload_n hX dX8_carry_0 rfl 0 rfl ?_
  refine j_get hX dX8_carry_1 inX8 0 q90 0 rfl rfl (by decide) rfl rfl ?_
  refine j_iload_n hX dX8_carry_4 rfl 1 rfl ?_
  obtain ⟨u1, h2, hf⟩ := jbind hf
  refine j_callV (st := []) hX (k_X2_has (l := l) (D := D) (t := t) (ad := ad) (o := o + 1) h_count h_pitches h_wears h_slots h_borrowers h_dueDays h_contents a0 u1 h2) q262 q263 q264 q3 q265 (n9 := 1) rfl ⟨by decide +kernel, by decide +kernel⟩ 0 rfl rfl rfl dX8_carry_5 (Nat.le_of_ble_eq_true rfl) ⟨Nat.le_refl _, Nat.le_refl _⟩ (frS_hammers t ad o r_count r_nextId r_ids r_borrowers r_pitches r_tolerances r_firstDays r_lastDays b_count b_hammers b_borrowers b_firstDays b_lastDays s_day s_coins s_bookingCoins s_lateCoins s_faceCosts s_broken s_lent) (frS_hammers_ok t ad o r_count r_nextId r_ids r_borrowers r_pitches r_tolerances r_firstDays r_lastDays b_count b_hammers b_borrowers b_firstDays b_lastDays s_day s_coins s_bookingCoins s_lateCoins s_faceCosts s_broken s_lent) rfl rfl (fun v w hvw => ?_)
  obtain ⟨rfl, rfl⟩ := hvw
  change J X 0 0 (wS t ad o h_count h_pitches h_wears h_slots h_borrowers h_dueDays h_contents r_count r_nextId r_ids r_borrowers r_pitches r_tolerances r_firstDays r_lastDays b_count b_hammers b_borrowers b_firstDays b_lastDays s_day s_coins s_bookingCoins s_lateCoins s_faceCosts s_broken s_lent) 8 [(0, .ref (ad o)), (1, .int a0), (2, .int a1)] [.int u1]
  refine j_if_eq hX 18 dX8_carry_8 (by decide) hf (fun c8 hf => ?_) (fun c8 hf => ?_)
  · refine j_bipush hX (-2) dX8_carry_18 (by decide) ?_
    cases hf
    exact j_iret hX hE dX8_carry_20 (Nat.le_refl _) (Nat.le_refl _) ⟨rfl, rfl⟩
  · refine j_iload_n hX dX8_carry_11 rfl 2 rfl ?_
    obtain ⟨u3, h4, hf⟩ := jbind hf
    refine j_callSN (st := []) hX (k_X9_isRack (l := l) (D := D) (t := t) (ad := ad)  a1 u3 h4) q618 q544 q1 q545 (n9 := 1) rfl ⟨by decide +kernel, by decide +kernel⟩ dX8_carry_12 (Nat.le_of_ble_eq_true rfl) ⟨Nat.le_refl _, Nat.le_refl _⟩ (fun w : va_W => w ++ (wS t ad o h_count h_pitches h_wears h_slots h_borrowers h_dueDays h_contents r_count r_nextId r_ids r_borrowers r_pitches r_tolerances r_firstDays r_lastDays b_count b_hammers b_borrowers b_firstDays b_lastDays s_day s_coins s_bookingCoins s_lateCoins s_faceCosts s_broken s_lent)) (jFr_r (wS t ad o h_count h_pitches h_wears h_slots h_borrowers h_dueDays h_contents r_count r_nextId r_ids r_borrowers r_pitches r_tolerances r_firstDays r_lastDays b_count b_hammers b_borrowers b_firstDays b_lastDays s_day s_coins s_bookingCoins s_lateCoins s_faceCosts s_broken s_lent)) rfl rfl (fun v w hvw => ?_)
    obtain ⟨rfl, rfl⟩ := hvw
    change J X 0 0 (wS t ad o h_count h_pitches h_wears h_slots h_borrowers h_dueDays h_contents r_count r_nextId r_ids r_borrowers r_pitches r_tolerances r_firstDays r_lastDays b_count b_hammers b_borrowers b_firstDays b_lastDays s_day s_coins s_bookingCoins s_lateCoins s_faceCosts s_broken s_lent) 15 [(0, .ref (ad o)), (1, .int a0), (2, .int a1)] [.int u3]
    refine j_if_ne hX 21 dX8_carry_15 (by decide) hf (fun c15 hf => ?_) (fun c15 hf => ?_)
    · refine j_aload_n hX dX8_carry_21 rfl 0 rfl ?_
      refine j_get hX dX8_carry_22 inX8 0 q90 0 rfl rfl (by decide) rfl rfl ?_
      refine j_iload_n hX dX8_carry_25 rfl 2 rfl ?_
      obtain ⟨u5, h6, hf⟩ := jbind hf
      refine j_callV (st := []) hX (k_X2_freePlaceOf (l := l) (D := D) (t := t) (ad := ad) (o := o + 1) h_count h_pitches h_wears h_slots h_borrowers h_dueDays h_contents a1 u5 h6) q619 q620 q621 q3 q622 (n9 := 1) rfl ⟨by decide +kernel, by decide +kernel⟩ 0 rfl rfl rfl dX8_carry_26 (Nat.le_of_ble_eq_true rfl) ⟨Nat.le_refl _, Nat.le_refl _⟩ (frS_hammers t ad o r_count r_nextId r_ids r_borrowers r_pitches r_tolerances r_firstDays r_lastDays b_count b_hammers b_borrowers b_firstDays b_lastDays s_day s_coins s_bookingCoins s_lateCoins s_faceCosts s_broken s_lent) (frS_hammers_ok t ad o r_count r_nextId r_ids r_borrowers r_pitches r_tolerances r_firstDays r_lastDays b_count b_hammers b_borrowers b_firstDays b_lastDays s_day s_coins s_bookingCoins s_lateCoins s_faceCosts s_broken s_lent) rfl rfl (fun v w hvw => ?_)
      obtain ⟨rfl, rfl⟩ := hvw
      change J X 0 0 (wS t ad o h_count h_pitches h_wears h_slots h_borrowers h_dueDays h_contents r_count r_nextId r_ids r_borrowers r_pitches r_tolerances r_firstDays r_lastDays b_count b_hammers b_borrowers b_firstDays b_lastDays s_day s_coins s_bookingCoins s_lateCoins s_faceCosts s_broken s_lent) 29 [(0, .ref (ad o)), (1, .int a0), (2, .int a1)] [.int u5]
      refine j_istore_n hX [(3, .int u5), (0, .ref (ad o)), (1, .int a0), (2, .int a1)] dX8_carry_29 rfl (by decide) rfl ?_
      refine j_aload_n hX dX8_carry_30 rfl 1 rfl ?_
      refine j_get hX dX8_carry_31 inX8 0 q90 0 rfl rfl (by decide) rfl rfl ?_
      refine j_iload_n hX dX8_carry_34 rfl 2 rfl ?_
      obtain ⟨u7, h8, hf⟩ := jbind hf
      refine j_callV (st := []) hX (k_X2_isAway (l := l) (D := D) (t := t) (ad := ad) (o := o + 1) h_count h_pitches h_wears h_slots h_borrowers h_dueDays h_contents a0 u7 h8) q286 q287 q288 q3 q289 (n9 := 1) rfl ⟨by decide +kernel, by decide +kernel⟩ 0 rfl rfl rfl dX8_carry_35 (Nat.le_of_ble_eq_true rfl) ⟨Nat.le_refl _, Nat.le_refl _⟩ (frS_hammers t ad o r_count r_nextId r_ids r_borrowers r_pitches r_tolerances r_firstDays r_lastDays b_count b_hammers b_borrowers b_firstDays b_lastDays s_day s_coins s_bookingCoins s_lateCoins s_faceCosts s_broken s_lent) (frS_hammers_ok t ad o r_count r_nextId r_ids r_borrowers r_pitches r_tolerances r_firstDays r_lastDays b_count b_hammers b_borrowers b_firstDays b_lastDays s_day s_coins s_bookingCoins s_lateCoins s_faceCosts s_broken s_lent) rfl rfl (fun v w hvw => ?_)
      obtain ⟨rfl, rfl⟩ := hvw
      change J X 0 0 (wS t ad o h_count h_pitches h_wears h_slots h_borrowers h_dueDays h_contents r_count r_nextId r_ids r_borrowers r_pitches r_tolerances r_firstDays r_lastDays b_count b_hammers b_borrowers b_firstDays b_lastDays s_day s_coins s_bookingCoins s_lateCoins s_faceCosts s_broken s_lent) 38 [(3, .int u5), (0, .ref (ad o)), (1, .int a0), (2, .int a1)] [.int u7]
      refine j_if_ne hX 61 dX8_carry_38 (by decide) hf (fun c38 hf => ?_) (fun c38 hf => ?_)
      · refine j_bipush hX (-3) dX8_carry_61 (by decide) ?_
        cases hf
        exact j_iret hX hE dX8_carry_63 (Nat.le_refl _) (Nat.le_refl _) ⟨rfl, rfl⟩
      · refine j_aload_n hX dX8_carry_41 rfl 1 rfl ?_
        refine j_get hX dX8_carry_42 inX8 0 q90 0 rfl rfl (by decide) rfl rfl ?_
        refine j_iload_n hX dX8_carry_45 rfl 2 rfl ?_
        obtain ⟨u9, h10, hf⟩ := jbind hf
        refine j_callV (st := []) hX (k_X2_slotOf (l := l) (D := D) (t := t) (ad := ad) (o := o + 1) h_count h_pitches h_wears h_slots h_borrowers h_dueDays h_contents a0 u9 h10) q648 q587 q588 q3 q589 (n9 := 1) rfl ⟨by decide +kernel, by decide +kernel⟩ 0 rfl rfl rfl dX8_carry_46 (Nat.le_of_ble_eq_true rfl) ⟨Nat.le_refl _, Nat.le_refl _⟩ (frS_hammers t ad o r_count r_nextId r_ids r_borrowers r_pitches r_tolerances r_firstDays r_lastDays b_count b_hammers b_borrowers b_firstDays b_lastDays s_day s_coins s_bookingCoins s_lateCoins s_faceCosts s_broken s_lent) (frS_hammers_ok t ad o r_count r_nextId r_ids r_borrowers r_pitches r_tolerances r_firstDays r_lastDays b_count b_hammers b_borrowers b_firstDays b_lastDays s_day s_coins s_bookingCoins s_lateCoins s_faceCosts s_broken s_lent) rfl rfl (fun v w hvw => ?_)
        obtain ⟨rfl, rfl⟩ := hvw
        change J X 0 0 (wS t ad o h_count h_pitches h_wears h_slots h_borrowers h_dueDays h_contents r_count r_nextId r_ids r_borrowers r_pitches r_tolerances r_firstDays r_lastDays b_count b_hammers b_borrowers b_firstDays b_lastDays s_day s_coins s_bookingCoins s_lateCoins s_faceCosts s_broken s_lent) 49 [(3, .int u5), (0, .ref (ad o)), (1, .int a0), (2, .int a1)] [.int u9]
        refine j_bipush hX 6 dX8_carry_49 (by decide) ?_
        refine j_idiv hX dX8_carry_51 (by decide) ?_
        refine j_iload_n hX dX8_carry_52 rfl 3 rfl ?_
        refine j_icmp_eq hX 61 dX8_carry_53 (by decide) hf (fun c53 hf => ?_) (fun c53 hf => ?_)
        · refine j_bipush hX (-3) dX8_carry_61 (by decide) ?_
          cases hf
          exact j_iret hX hE dX8_carry_63 (Nat.le_refl _) (Nat.le_refl _) ⟨rfl, rfl⟩
        · refine j_iload_n hX dX8_carry_56 rfl 0 rfl ?_
          refine j_iconst hX (-1) dX8_carry_57 (by decide) ?_
          refine j_icmp_ne hX 64 dX8_carry_58 (by decide) hf (fun c58 hf => ?_) (fun c58 hf => ?_)
          · refine j_aload_n hX dX8_carry_64 rfl 1 rfl ?_
            refine j_get hX dX8_carry_65 inX8 0 q90 0 rfl rfl (by decide) rfl rfl ?_
            refine j_iload_n hX dX8_carry_68 rfl 2 rfl ?_
            obtain ⟨u11, h12, hf⟩ := jbind hf
            refine j_callV (st := []) hX (k_X2_takeOut (l := l) (D := D) (t := t) (ad := ad) (o := o + 1) h_count h_pitches h_wears h_slots h_borrowers h_dueDays h_contents a0 u11 h12) q649 q650 q651 q3 q652 (n9 := 1) rfl ⟨by decide +kernel, by decide +kernel⟩ 0 rfl rfl rfl dX8_carry_69 (Nat.le_of_ble_eq_true rfl) ⟨Nat.le_refl _, Nat.le_refl _⟩ (frS_hammers t ad o r_count r_nextId r_ids r_borrowers r_pitches r_tolerances r_firstDays r_lastDays b_count b_hammers b_borrowers b_firstDays b_lastDays s_day s_coins s_bookingCoins s_lateCoins s_faceCosts s_broken s_lent) (frS_hammers_ok t ad o r_count r_nextId r_ids r_borrowers r_pitches r_tolerances r_firstDays r_lastDays b_count b_hammers b_borrowers b_firstDays b_lastDays s_day s_coins s_bookingCoins s_lateCoins s_faceCosts s_broken s_lent) rfl rfl (fun v w hvw => ?_)
            obtain ⟨rfl, rfl⟩ := hvw
            change J X 0 0 (wS t ad o h_count h_pitches h_wears u11.1 h_borrowers h_dueDays u11.2 r_count r_nextId r_ids r_borrowers r_pitches r_tolerances r_firstDays r_lastDays b_count b_hammers b_borrowers b_firstDays b_lastDays s_day s_coins s_bookingCoins s_lateCoins s_faceCosts s_broken s_lent) 72 [(3, .int u5), (0, .ref (ad o)), (1, .int a0), (2, .int a1)] []
            refine j_aload_n hX dX8_carry_72 rfl 1 rfl ?_
            refine j_get hX dX8_carry_73 inX8 0 q90 0 rfl rfl (by decide) rfl rfl ?_
            refine j_iload_n hX dX8_carry_76 rfl 3 rfl ?_
            refine j_iload_n hX dX8_carry_77 rfl 0 rfl ?_
            refine j_iload_n hX dX8_carry_78 rfl 2 rfl ?_
            obtain ⟨u13, h14, hf⟩ := jbind hf
            refine j_callV (st := []) hX (k_X2_setContent (l := l) (D := D) (t := t) (ad := ad) (o := o + 1) h_count h_pitches h_wears u11.1 h_borrowers h_dueDays u11.2 a1 u5 a0 u13 h14) q633 q634 q635 q3 q636 (n9 := 3) rfl ⟨by decide +kernel, by decide +kernel⟩ 0 rfl rfl rfl dX8_carry_79 (Nat.le_of_ble_eq_true rfl) ⟨Nat.le_refl _, Nat.le_refl _⟩ (frS_hammers t ad o r_count r_nextId r_ids r_borrowers r_pitches r_tolerances r_firstDays r_lastDays b_count b_hammers b_borrowers b_firstDays b_lastDays s_day s_coins s_bookingCoins s_lateCoins s_faceCosts s_broken s_lent) (frS_hammers_ok t ad o r_count r_nextId r_ids r_borrowers r_pitches r_tolerances r_firstDays r_lastDays b_count b_hammers b_borrowers b_firstDays b_lastDays s_day s_coins s_bookingCoins s_lateCoins s_faceCosts s_broken s_lent) rfl rfl (fun v w hvw => ?_)
            obtain ⟨rfl, rfl⟩ := hvw
            change J X 0 0 (wS t ad o h_count h_pitches h_wears u13.1 h_borrowers h_dueDays u13.2 r_count r_nextId r_ids r_borrowers r_pitches r_tolerances r_firstDays r_lastDays b_count b_hammers b_borrowers b_firstDays b_lastDays s_day s_coins s_bookingCoins s_lateCoins s_faceCosts s_broken s_lent) 82 [(3, .int u5), (0, .ref (ad o)), (1, .int a0), (2, .int a1)] []
            refine j_iload_n hX dX8_carry_82 rfl 0 rfl ?_
            cases hf
            exact j_iret hX hE dX8_carry_83 (Nat.le_refl _) (Nat.le_refl _) ⟨rfl, rfl⟩
          · refine j_bipush hX (-3) dX8_carry_61 (by decide) ?_
            cases hf
            exact j_iret hX hE dX8_carry_63 (Nat.le_refl _) (Nat.le_refl _) ⟨rfl, rfl⟩
    · refine j_bipush hX (-2) dX8_carry_18 (by decide) ?_
      cases hf
      exact j_iret hX hE dX8_carry_20 (Nat.le_refl _) (Nat.le_refl _) ⟨rfl, rfl⟩
-- HammerDepot$State exchange (III)I
def f_X8_exchange (h_count : Int32) (h_pitches : Nat → Int32) (h_slots : Nat → Int32) (h_contents : Nat → Int32) (a0 : Int32) (a1 : Int32) (a2 : Int32) : Option (Int32 × (Nat → Int32) × (Nat → Int32)) :=
  Option.bind (f_X9_isRack a0) (fun u1 =>
    if u1 = 0 then
      some ((-2), h_slots, h_contents)
    else
      Option.bind (f_X9_isPlace a1) (fun u3 =>
        if u3 = 0 then
          some ((-2), h_slots, h_contents)
        else
          Option.bind (f_X9_isPlace a2) (fun u5 =>
            if u5 = 0 then
              some ((-2), h_slots, h_contents)
            else
              if a1 = a2 then
                some ((-1), h_slots, h_contents)
              else
                Option.bind (f_X2_contentOf h_contents a0 a1) (fun u7 =>
                  Option.bind (f_X2_contentOf h_contents a0 a2) (fun u9 =>
                    Option.bind (f_X2_setContent h_count h_slots h_contents a0 a1 u9) (fun u11 =>
                      Option.bind (f_X2_setContent h_count u11.1 u11.2 a0 a2 u7) (fun u13 =>
                        Option.bind (f_X7_codeOf h_count h_pitches u13.2 a0) (fun u15 =>
                          Option.bind (f_X7_leastSwaps u15) (fun u17 =>
                            some (u17, u13.1, u13.2))))))))))
set_option maxHeartbeats 4000000 in
set_option maxRecDepth 100000 in
theorem k_X8_exchange {l : Launch} {D : va_G} {t : Nat → ClassId} {ad : Nat → Nat} {o : Nat} (h_count : Int32) (h_pitches : Nat → Int32) (h_wears : Nat → Int32) (h_slots : Nat → Int32) (h_borrowers : Nat → Int32) (h_dueDays : Nat → Int32) (h_contents : Nat → Int32) (r_count : Int32) (r_nextId : Int32) (r_ids : Nat → Int32) (r_borrowers : Nat → Int32) (r_pitches : Nat → Int32) (r_tolerances : Nat → Int32) (r_firstDays : Nat → Int32) (r_lastDays : Nat → Int32) (b_count : Int32) (b_hammers : Nat → Int32) (b_borrowers : Nat → Int32) (b_firstDays : Nat → Int32) (b_lastDays : Nat → Int32) (s_day : Int32) (s_coins : Int32) (s_bookingCoins : Int32) (s_lateCoins : Int32) (s_faceCosts : Int32) (s_broken : Int32) (s_lent : Int32) (a0 : Int32) (a1 : Int32) (a2 : Int32) (u : Int32 × (Nat → Int32) × (Nat → Int32)) (hf : f_X8_exchange h_count h_pitches h_slots h_contents a0 a1 a2 = some u) : cm l D (jT t) yX8_exchange cX8_exchange 5 (some FieldType.int) { frames := 20, cells := 0, slots := 0, locals := 490 } [.ref (ad o), .int a0, .int a1, .int a2] (wS t ad o h_count h_pitches h_wears h_slots h_borrowers h_dueDays h_contents r_count r_nextId r_ids r_borrowers r_pitches r_tolerances r_firstDays r_lastDays b_count b_hammers b_borrowers b_firstDays b_lastDays s_day s_coins s_bookingCoins s_lateCoins s_faceCosts s_broken s_lent) (fun v w => v = (some (.int u.1)) ∧ w = wS t ad o h_count h_pitches h_wears u.2.1 h_borrowers h_dueDays u.2.2 r_count r_nextId r_ids r_borrowers r_pitches r_tolerances r_firstDays r_lastDays b_count b_hammers b_borrowers b_firstDays b_lastDays s_day s_coins s_bookingCoins s_lateCoins s_faceCosts s_broken s_lent) := by
  refine cm_of RX8 rfl (by decide +kernel) (Nat.le_of_ble_eq_true rfl) (fun X hX hE => ?_)
  change J X 0 0 (wS t ad o h_count h_pitches h_wears h_slots h_borrowers h_dueDays h_contents r_count r_nextId r_ids r_borrowers r_pitches r_tolerances r_firstDays r_lastDays b_count b_hammers b_borrowers b_firstDays b_lastDays s_day s_coins s_bookingCoins s_lateCoins s_faceCosts s_broken s_lent) 0 [(0, .ref (ad o)), (1, .int a0), (2, .int a1), (3, .int a2)] []
  unfold f_X8_exchange at hf
  refine j_iload_n hX dX8_exchange_0 rfl 1 rfl ?_
  obtain ⟨u1, h2, hf⟩ := jbind hf
  refine j_callSN (st := []) hX (k_X9_isRack (l := l) (D := D) (t := t) (ad := ad)  a0 u1 h2) q618 q544 q1 q545 (n9 := 1) rfl ⟨by decide +kernel, by decide +kernel⟩ dX8_exchange_1 (Nat.le_of_ble_eq_true rfl) ⟨Nat.le_refl _, Nat.le_refl _⟩ (fun w : va_W => w ++ (wS t ad o h_count h_pitches h_wears h_slots h_borrowers h_dueDays h_contents r_count r_nextId r_ids r_borrowers r_pitches r_tolerances r_firstDays r_lastDays b_count b_hammers b_borrowers b_firstDays b_lastDays s_day s_coins s_bookingCoins s_lateCoins s_faceCosts s_broken s_lent)) (jFr_r (wS t ad o h_count h_pitches h_wears h_slots h_borrowers h_dueDays h_contents r_count r_nextId r_ids r_borrowers r_pitches r_tolerances r_firstDays r_lastDays b_count b_hammers b_borrowers b_firstDays b_lastDays s_day s_coins s_bookingCoins s_lateCoins s_faceCosts s_broken s_lent)) rfl rfl (fun v w hvw => ?_)
  obtain ⟨rfl, rfl⟩ := hvw
  change J X 0 0 (wS t ad o h_count h_pitches h_wears h_slots h_borrowers h_dueDays h_contents r_count r_nextId r_ids r_borrowers r_pitches r_tolerances r_firstDays r_lastDays b_count b_hammers b_borrowers b_firstDays b_lastDays s_day s_coins s_bookingCoins s_lateCoins s_faceCosts s_broken s_lent) 4 [(0, .ref (ad o)), (1, .int a0), (2, .int a1), (3, .int a2)] [.int u1]
  refine j_if_eq hX 21 dX8_exchange_4 (by decide) hf (fun c4 hf => ?_) (fun c4 hf => ?_)
  · refine j_bipush hX (-2) dX8_exchange_21 (by decide) ?_
    cases hf
    exact j_iret hX hE dX8_exchange_23 (Nat.le_refl _) (Nat.le_refl _) ⟨rfl, rfl⟩
  · refine j_iload_n hX dX8_exchange_7 rfl 2 rfl ?_
    obtain ⟨u3, h4, hf⟩ := jbind hf
    refine j_callSN (st := []) hX (k_X9_isPlace (l := l) (D := D) (t := t) (ad := ad)  a1 u3 h4) q664 q547 q1 q548 (n9 := 1) rfl ⟨by decide +kernel, by decide +kernel⟩ dX8_exchange_8 (Nat.le_of_ble_eq_true rfl) ⟨Nat.le_refl _, Nat.le_refl _⟩ (fun w : va_W => w ++ (wS t ad o h_count h_pitches h_wears h_slots h_borrowers h_dueDays h_contents r_count r_nextId r_ids r_borrowers r_pitches r_tolerances r_firstDays r_lastDays b_count b_hammers b_borrowers b_firstDays b_lastDays s_day s_coins s_bookingCoins s_lateCoins s_faceCosts s_broken s_lent)) (jFr_r (wS t ad o h_count h_pitches h_wears h_slots h_borrowers h_dueDays h_contents r_count r_nextId r_ids r_borrowers r_pitches r_tolerances r_firstDays r_lastDays b_count b_hammers b_borrowers b_firstDays b_lastDays s_day s_coins s_bookingCoins s_lateCoins s_faceCosts s_broken s_lent)) rfl rfl (fun v w hvw => ?_)
    obtain ⟨rfl, rfl⟩ := hvw
    change J X 0 0 (wS t ad o h_count h_pitches h_wears h_slots h_borrowers h_dueDays h_contents r_count r_nextId r_ids r_borrowers r_pitches r_tolerances r_firstDays r_lastDays b_count b_hammers b_borrowers b_firstDays b_lastDays s_day s_coins s_bookingCoins s_lateCoins s_faceCosts s_broken s_lent) 11 [(0, .ref (ad o)), (1, .int a0), (2, .int a1), (3, .int a2)] [.int u3]
    refine j_if_eq hX 21 dX8_exchange_11 (by decide) hf (fun c11 hf => ?_) (fun c11 hf => ?_)
    · refine j_bipush hX (-2) dX8_exchange_21 (by decide) ?_
      cases hf
      exact j_iret hX hE dX8_exchange_23 (Nat.le_refl _) (Nat.le_refl _) ⟨rfl, rfl⟩
    · refine j_iload_n hX dX8_exchange_14 rfl 3 rfl ?_
      obtain ⟨u5, h6, hf⟩ := jbind hf
      refine j_callSN (st := []) hX (k_X9_isPlace (l := l) (D := D) (t := t) (ad := ad)  a2 u5 h6) q664 q547 q1 q548 (n9 := 1) rfl ⟨by decide +kernel, by decide +kernel⟩ dX8_exchange_15 (Nat.le_of_ble_eq_true rfl) ⟨Nat.le_refl _, Nat.le_refl _⟩ (fun w : va_W => w ++ (wS t ad o h_count h_pitches h_wears h_slots h_borrowers h_dueDays h_contents r_count r_nextId r_ids r_borrowers r_pitches r_tolerances r_firstDays r_lastDays b_count b_hammers b_borrowers b_firstDays b_lastDays s_day s_coins s_bookingCoins s_lateCoins s_faceCosts s_broken s_lent)) (jFr_r (wS t ad o h_count h_pitches h_wears h_slots h_borrowers h_dueDays h_contents r_count r_nextId r_ids r_borrowers r_pitches r_tolerances r_firstDays r_lastDays b_count b_hammers b_borrowers b_firstDays b_lastDays s_day s_coins s_bookingCoins s_lateCoins s_faceCosts s_broken s_lent)) rfl rfl (fun v w hvw => ?_)
      obtain ⟨rfl, rfl⟩ := hvw
      change J X 0 0 (wS t ad o h_count h_pitches h_wears h_slots h_borrowers h_dueDays h_contents r_count r_nextId r_ids r_borrowers r_pitches r_tolerances r_firstDays r_lastDays b_count b_hammers b_borrowers b_firstDays b_lastDays s_day s_coins s_bookingCoins s_lateCoins s_faceCosts s_broken s_lent) 18 [(0, .ref (ad o)), (1, .int a0), (2, .int a1), (3, .int a2)] [.int u5]
      refine j_if_ne hX 24 dX8_exchange_18 (by decide) hf (fun c18 hf => ?_) (fun c18 hf => ?_)
      · refine j_iload_n hX dX8_exchange_24 rfl 2 rfl ?_
        refine j_iload_n hX dX8_exchange_25 rfl 3 rfl ?_
        refine j_icmp_ne hX 31 dX8_exchange_26 (by decide) hf (fun c26 hf => ?_) (fun c26 hf => ?_)
        · refine j_aload_n hX dX8_exchange_31 rfl 0 rfl ?_
          refine j_get hX dX8_exchange_32 inX8 0 q90 0 rfl rfl (by decide) rfl rfl ?_
          refine j_iload_n hX dX8_exchange_35 rfl 1 rfl ?_
          refine j_iload_n hX dX8_exchange_36 rfl 2 rfl ?_
          obtain ⟨u7, h8, hf⟩ := jbind hf
          refine j_callV (st := []) hX (k_X2_contentOf (l := l) (D := D) (t := t) (ad := ad) (o := o + 1) h_count h_pitches h_wears h_slots h_borrowers h_dueDays h_contents a0 a1 u7 h8) q665 q540 q541 q3 q542 (n9 := 2) rfl ⟨by decide +kernel, by decide +kernel⟩ 0 rfl rfl rfl dX8_exchange_37 (Nat.le_of_ble_eq_true rfl) ⟨Nat.le_refl _, Nat.le_refl _⟩ (frS_hammers t ad o r_count r_nextId r_ids r_borrowers r_pitches r_tolerances r_firstDays r_lastDays b_count b_hammers b_borrowers b_firstDays b_lastDays s_day s_coins s_bookingCoins s_lateCoins s_faceCosts s_broken s_lent) (frS_hammers_ok t ad o r_count r_nextId r_ids r_borrowers r_pitches r_tolerances r_firstDays r_lastDays b_count b_hammers b_borrowers b_firstDays b_lastDays s_day s_coins s_bookingCoins s_lateCoins s_faceCosts s_broken s_lent) rfl rfl (fun v w hvw => ?_)
          obtain ⟨rfl, rfl⟩ := hvw
          change J X 0 0 (wS t ad o h_count h_pitches h_wears h_slots h_borrowers h_dueDays h_contents r_count r_nextId r_ids r_borrowers r_pitches r_tolerances r_firstDays r_lastDays b_count b_hammers b_borrowers b_firstDays b_lastDays s_day s_coins s_bookingCoins s_lateCoins s_faceCosts s_broken s_lent) 40 [(0, .ref (ad o)), (1, .int a0), (2, .int a1), (3, .int a2)] [.int u7]
          refine j_istore hX [(4, .int u7), (0, .ref (ad o)), (1, .int a0), (2, .int a1), (3, .int a2)] dX8_exchange_40 (by decide) rfl ?_
          refine j_aload_n hX dX8_exchange_42 rfl 1 rfl ?_
          refine j_get hX dX8_exchange_43 inX8 0 q90 0 rfl rfl (by decide) rfl rfl ?_
          refine j_iload_n hX dX8_exchange_46 rfl 2 rfl ?_
          refine j_iload_n hX dX8_exchange_47 rfl 3 rfl ?_
          refine j_aload_n hX dX8_exchange_48 rfl 1 rfl ?_
          refine j_get hX dX8_exchange_49 inX8 0 q90 0 rfl rfl (by decide) rfl rfl ?_
          refine j_iload_n hX dX8_exchange_52 rfl 2 rfl ?_
          refine j_iload_n hX dX8_exchange_53 rfl 4 rfl ?_
          obtain ⟨u9, h10, hf⟩ := jbind hf
          refine j_callV (st := [.int a1, .int a0, .ref (ad (o + 1))]) hX (k_X2_contentOf (l := l) (D := D) (t := t) (ad := ad) (o := o + 1) h_count h_pitches h_wears h_slots h_borrowers h_dueDays h_contents a0 a2 u9 h10) q665 q540 q541 q3 q542 (n9 := 2) rfl ⟨by decide +kernel, by decide +kernel⟩ 0 rfl rfl rfl dX8_exchange_54 (Nat.le_of_ble_eq_true rfl) ⟨Nat.le_refl _, Nat.le_refl _⟩ (frS_hammers t ad o r_count r_nextId r_ids r_borrowers r_pitches r_tolerances r_firstDays r_lastDays b_count b_hammers b_borrowers b_firstDays b_lastDays s_day s_coins s_bookingCoins s_lateCoins s_faceCosts s_broken s_lent) (frS_hammers_ok t ad o r_count r_nextId r_ids r_borrowers r_pitches r_tolerances r_firstDays r_lastDays b_count b_hammers b_borrowers b_firstDays b_lastDays s_day s_coins s_bookingCoins s_lateCoins s_faceCosts s_broken s_lent) rfl rfl (fun v w hvw => ?_)
          obtain ⟨rfl, rfl⟩ := hvw
          change J X 0 0 (wS t ad o h_count h_pitches h_wears h_slots h_borrowers h_dueDays h_contents r_count r_nextId r_ids r_borrowers r_pitches r_tolerances r_firstDays r_lastDays b_count b_hammers b_borrowers b_firstDays b_lastDays s_day s_coins s_bookingCoins s_lateCoins s_faceCosts s_broken s_lent) 57 [(4, .int u7), (0, .ref (ad o)), (1, .int a0), (2, .int a1), (3, .int a2)] [.int u9, .int a1, .int a0, .ref (ad (o + 1))]
          obtain ⟨u11, h12, hf⟩ := jbind hf
          refine j_callV (st := []) hX (k_X2_setContent (l := l) (D := D) (t := t) (ad := ad) (o := o + 1) h_count h_pitches h_wears h_slots h_borrowers h_dueDays h_contents a0 a1 u9 u11 h12) q633 q634 q635 q3 q636 (n9 := 3) rfl ⟨by decide +kernel, by decide +kernel⟩ 0 rfl rfl rfl dX8_exchange_57 (Nat.le_of_ble_eq_true rfl) ⟨Nat.le_refl _, Nat.le_refl _⟩ (frS_hammers t ad o r_count r_nextId r_ids r_borrowers r_pitches r_tolerances r_firstDays r_lastDays b_count b_hammers b_borrowers b_firstDays b_lastDays s_day s_coins s_bookingCoins s_lateCoins s_faceCosts s_broken s_lent) (frS_hammers_ok t ad o r_count r_nextId r_ids r_borrowers r_pitches r_tolerances r_firstDays r_lastDays b_count b_hammers b_borrowers b_firstDays b_lastDays s_day s_coins s_bookingCoins s_lateCoins s_faceCosts s_broken s_lent) rfl rfl (fun v w hvw => ?_)
          obtain ⟨rfl, rfl⟩ := hvw
          change J X 0 0 (wS t ad o h_count h_pitches h_wears u11.1 h_borrowers h_dueDays u11.2 r_count r_nextId r_ids r_borrowers r_pitches r_tolerances r_firstDays r_lastDays b_count b_hammers b_borrowers b_firstDays b_lastDays s_day s_coins s_bookingCoins s_lateCoins s_faceCosts s_broken s_lent) 60 [(4, .int u7), (0, .ref (ad o)), (1, .int a0), (2, .int a1), (3, .int a2)] []
          refine j_aload_n hX dX8_exchange_60 rfl 1 rfl ?_
          refine j_get hX dX8_exchange_61 inX8 0 q90 0 rfl rfl (by decide) rfl rfl ?_
          refine j_iload_n hX dX8_exchange_64 rfl 2 rfl ?_
          refine j_iload_n hX dX8_exchange_65 rfl 4 rfl ?_
          refine j_iload hX dX8_exchange_66 0 rfl ?_
          obtain ⟨u13, h14, hf⟩ := jbind hf
          refine j_callV (st := []) hX (k_X2_setContent (l := l) (D := D) (t := t) (ad := ad) (o := o + 1) h_count h_pitches h_wears u11.1 h_borrowers h_dueDays u11.2 a0 a2 u7 u13 h14) q633 q634 q635 q3 q636 (n9 := 3) rfl ⟨by decide +kernel, by decide +kernel⟩ 0 rfl rfl rfl dX8_exchange_68 (Nat.le_of_ble_eq_true rfl) ⟨Nat.le_refl _, Nat.le_refl _⟩ (frS_hammers t ad o r_count r_nextId r_ids r_borrowers r_pitches r_tolerances r_firstDays r_lastDays b_count b_hammers b_borrowers b_firstDays b_lastDays s_day s_coins s_bookingCoins s_lateCoins s_faceCosts s_broken s_lent) (frS_hammers_ok t ad o r_count r_nextId r_ids r_borrowers r_pitches r_tolerances r_firstDays r_lastDays b_count b_hammers b_borrowers b_firstDays b_lastDays s_day s_coins s_bookingCoins s_lateCoins s_faceCosts s_broken s_lent) rfl rfl (fun v w hvw => ?_)
          obtain ⟨rfl, rfl⟩ := hvw
          change J X 0 0 (wS t ad o h_count h_pitches h_wears u13.1 h_borrowers h_dueDays u13.2 r_count r_nextId r_ids r_borrowers r_pitches r_tolerances r_firstDays r_lastDays b_count b_hammers b_borrowers b_firstDays b_lastDays s_day s_coins s_bookingCoins s_lateCoins s_faceCosts s_broken s_lent) 71 [(4, .int u7), (0, .ref (ad o)), (1, .int a0), (2, .int a1), (3, .int a2)] []
          refine j_aload_n hX dX8_exchange_71 rfl 1 rfl ?_
          refine j_get hX dX8_exchange_72 inX8 0 q90 0 rfl rfl (by decide) rfl rfl ?_
          refine j_iload_n hX dX8_exchange_75 rfl 2 rfl ?_
          obtain ⟨u15, h16, hf⟩ := jbind hf
          refine j_callS (st := []) hX (k_X7_codeOf (l := l) (D := D) (t := t) (ad := ad) (o := o + 1) h_count h_pitches h_wears u13.1 h_borrowers h_dueDays u13.2 a0 u15 h16) q666 q537 q27 q538 (n9 := 2) rfl ⟨by decide +kernel, by decide +kernel⟩ dX8_exchange_76 (Nat.le_of_ble_eq_true rfl) ⟨Nat.le_refl _, Nat.le_refl _⟩ (frS_hammers t ad o r_count r_nextId r_ids r_borrowers r_pitches r_tolerances r_firstDays r_lastDays b_count b_hammers b_borrowers b_firstDays b_lastDays s_day s_coins s_bookingCoins s_lateCoins s_faceCosts s_broken s_lent) (frS_hammers_ok t ad o r_count r_nextId r_ids r_borrowers r_pitches r_tolerances r_firstDays r_lastDays b_count b_hammers b_borrowers b_firstDays b_lastDays s_day s_coins s_bookingCoins s_lateCoins s_faceCosts s_broken s_lent) rfl rfl (fun v w hvw => ?_)
          obtain ⟨rfl, rfl⟩ := hvw
          change J X 0 0 (wS t ad o h_count h_pitches h_wears u13.1 h_borrowers h_dueDays u13.2 r_count r_nextId r_ids r_borrowers r_pitches r_tolerances r_firstDays r_lastDays b_count b_hammers b_borrowers b_firstDays b_lastDays s_day s_coins s_bookingCoins s_lateCoins s_faceCosts s_broken s_lent) 79 [(4, .int u7), (0, .ref (ad o)), (1, .int a0), (2, .int a1), (3, .int a2)] [.int u15]
          obtain ⟨u17, h18, hf⟩ := jbind hf
          refine j_callS (st := []) hX (k_X7_leastSwaps (l := l) (D := D) (t := t) (ad := ad)  u15 u17 h18) q667 q557 q27 q558 (n9 := 1) rfl ⟨by decide +kernel, by decide +kernel⟩ dX8_exchange_79 (Nat.le_of_ble_eq_true rfl) ⟨Nat.le_refl _, Nat.le_refl _⟩ (fun w : va_W => w ++ (wS t ad o h_count h_pitches h_wears u13.1 h_borrowers h_dueDays u13.2 r_count r_nextId r_ids r_borrowers r_pitches r_tolerances r_firstDays r_lastDays b_count b_hammers b_borrowers b_firstDays b_lastDays s_day s_coins s_bookingCoins s_lateCoins s_faceCosts s_broken s_lent)) (jFr_r (wS t ad o h_count h_pitches h_wears u13.1 h_borrowers h_dueDays u13.2 r_count r_nextId r_ids r_borrowers r_pitches r_tolerances r_firstDays r_lastDays b_count b_hammers b_borrowers b_firstDays b_lastDays s_day s_coins s_bookingCoins s_lateCoins s_faceCosts s_broken s_lent)) rfl rfl (fun v w hvw => ?_)
          obtain ⟨rfl, rfl⟩ := hvw
          change J X 0 0 (wS t ad o h_count h_pitches h_wears u13.1 h_borrowers h_dueDays u13.2 r_count r_nextId r_ids r_borrowers r_pitches r_tolerances r_firstDays r_lastDays b_count b_hammers b_borrowers b_firstDays b_lastDays s_day s_coins s_bookingCoins s_lateCoins s_faceCosts s_broken s_lent) 82 [(4, .int u7), (0, .ref (ad o)), (1, .int a0), (2, .int a1), (3, .int a2)] [.int u17]
          cases hf
          exact j_iret hX hE dX8_exchange_82 (Nat.le_refl _) (Nat.le_refl _) ⟨rfl, rfl⟩
        · refine j_iconst hX (-1) dX8_exchange_29 (by decide) ?_
          cases hf
          exact j_iret hX hE dX8_exchange_30 (Nat.le_refl _) (Nat.le_refl _) ⟨rfl, rfl⟩
      · refine j_bipush hX (-2) dX8_exchange_21 (by decide) ?_
        cases hf
        exact j_iret hX hE dX8_exchange_23 (Nat.le_refl _) (Nat.le_refl _) ⟨rfl, rfl⟩
-- HammerDepot$State ask (IIIII)I
def f_X8_ask (r_count : Int32) (r_nextId : Int32) (r_ids : Nat → Int32) (r_borrowers : Nat → Int32) (r_pitches : Nat → Int32) (r_tolerances : Nat → Int32) (r_firstDays : Nat → Int32) (r_lastDays : Nat → Int32) (s_day : Int32) (a0 : Int32) (a1 : Int32) (a2 : Int32) (a3 : Int32) (a4 : Int32) : Option (Int32 × Int32 × Int32 × (Nat → Int32) × (Nat → Int32) × (Nat → Int32) × (Nat → Int32) × (Nat → Int32) × (Nat → Int32)) :=
  if a0 < 0 then
    some ((-1), r_count, r_nextId, r_ids, r_borrowers, r_pitches, r_tolerances, r_firstDays, r_lastDays)
  else
    if 9 < a0 then
      some ((-1), r_count, r_nextId, r_ids, r_borrowers, r_pitches, r_tolerances, r_firstDays, r_lastDays)
    else
      if a1 < 0 then
        some ((-1), r_count, r_nextId, r_ids, r_borrowers, r_pitches, r_tolerances, r_firstDays, r_lastDays)
      else
        if a1 ≤ 60 then
          if a2 < 0 then
            some ((-1), r_count, r_nextId, r_ids, r_borrowers, r_pitches, r_tolerances, r_firstDays, r_lastDays)
          else
            if a2 ≤ 12 then
              if a3 ≤ s_day then
                some ((-1), r_count, r_nextId, r_ids, r_borrowers, r_pitches, r_tolerances, r_firstDays, r_lastDays)
              else
                if a4 < a3 then
                  some ((-1), r_count, r_nextId, r_ids, r_borrowers, r_pitches, r_tolerances, r_firstDays, r_lastDays)
                else
                  if a4 ≤ (s_day + 40) then
                    Option.bind (f_X5_isFull r_count) (fun u1 =>
                      if u1 = 0 then
                        Option.bind (f_X5_add r_count r_nextId r_ids r_borrowers r_pitches r_tolerances r_firstDays r_lastDays a0 a1 a2 a3 a4) (fun u3 =>
                          some (u3.1, u3.2.1, u3.2.2.1, u3.2.2.2.1, u3.2.2.2.2.1, u3.2.2.2.2.2.1, u3.2.2.2.2.2.2.1, u3.2.2.2.2.2.2.2.1, u3.2.2.2.2.2.2.2.2))
                      else
                        some ((-3), r_count, r_nextId, r_ids, r_borrowers, r_pitches, r_tolerances, r_firstDays, r_lastDays))
                  else
                    some ((-1), r_count, r_nextId, r_ids, r_borrowers, r_pitches, r_tolerances, r_firstDays, r_lastDays)
            else
              some ((-1), r_count, r_nextId, r_ids, r_borrowers, r_pitches, r_tolerances, r_firstDays, r_lastDays)
        else
          some ((-1), r_count, r_nextId, r_ids, r_borrowers, r_pitches, r_tolerances, r_firstDays, r_lastDays)
set_option maxHeartbeats 4000000 in
set_option maxRecDepth 100000 in
theorem k_X8_ask {l : Launch} {D : va_G} {t : Nat → ClassId} {ad : Nat → Nat} {o : Nat} (h_count : Int32) (h_pitches : Nat → Int32) (h_wears : Nat → Int32) (h_slots : Nat → Int32) (h_borrowers : Nat → Int32) (h_dueDays : Nat → Int32) (h_contents : Nat → Int32) (r_count : Int32) (r_nextId : Int32) (r_ids : Nat → Int32) (r_borrowers : Nat → Int32) (r_pitches : Nat → Int32) (r_tolerances : Nat → Int32) (r_firstDays : Nat → Int32) (r_lastDays : Nat → Int32) (b_count : Int32) (b_hammers : Nat → Int32) (b_borrowers : Nat → Int32) (b_firstDays : Nat → Int32) (b_lastDays : Nat → Int32) (s_day : Int32) (s_coins : Int32) (s_bookingCoins : Int32) (s_lateCoins : Int32) (s_faceCosts : Int32) (s_broken : Int32) (s_lent : Int32) (a0 : Int32) (a1 : Int32) (a2 : Int32) (a3 : Int32) (a4 : Int32) (u : Int32 × Int32 × Int32 × (Nat → Int32) × (Nat → Int32) × (Nat → Int32) × (Nat → Int32) × (Nat → Int32) × (Nat → Int32)) (hf : f_X8_ask r_count r_nextId r_ids r_borrowers r_pitches r_tolerances r_firstDays r_lastDays s_day a0 a1 a2 a3 a4 = some u) : cm l D (jT t) yX8_ask cX8_ask 6 (some FieldType.int) { frames := 2, cells := 0, slots := 0, locals := 46 } [.ref (ad o), .int a0, .int a1, .int a2, .int a3, .int a4] (wS t ad o h_count h_pitches h_wears h_slots h_borrowers h_dueDays h_contents r_count r_nextId r_ids r_borrowers r_pitches r_tolerances r_firstDays r_lastDays b_count b_hammers b_borrowers b_firstDays b_lastDays s_day s_coins s_bookingCoins s_lateCoins s_faceCosts s_broken s_lent) (fun v w => v = (some (.int u.1)) ∧ w = wS t ad o h_count h_pitches h_wears h_slots h_borrowers h_dueDays h_contents u.2.1 u.2.2.1 u.2.2.2.1 u.2.2.2.2.1 u.2.2.2.2.2.1 u.2.2.2.2.2.2.1 u.2.2.2.2.2.2.2.1 u.2.2.2.2.2.2.2.2 b_count b_hammers b_borrowers b_firstDays b_lastDays s_day s_coins s_bookingCoins s_lateCoins s_faceCosts s_broken s_lent) := by
  refine cm_of RX8 rfl (by decide +kernel) (Nat.le_of_ble_eq_true rfl) (fun X hX hE => ?_)
  change J X 0 0 (wS t ad o h_count h_pitches h_wears h_slots h_borrowers h_dueDays h_contents r_count r_nextId r_ids r_borrowers r_pitches r_tolerances r_firstDays r_lastDays b_count b_hammers b_borrowers b_firstDays b_lastDays s_day s_coins s_bookingCoins s_lateCoins s_faceCosts s_broken s_lent) 0 [(0, .ref (ad o)), (1, .int a0), (2, .int a1), (3, .int a2), (4, .int a3), (5, .int a4)] []
  unfold f_X8_ask at hf
  refine j_iload_n hX dX8_ask_0 rfl 1 rfl ?_
  refine j_if_lt hX 20 dX8_ask_1 (by decide) hf (fun c1 hf => ?_) (fun c1 hf => ?_)
  · refine j_iconst hX (-1) dX8_ask_20 (by decide) ?_
    cases hf
    exact j_iret hX hE dX8_ask_21 (Nat.le_refl _) (Nat.le_refl _) ⟨rfl, rfl⟩
  · refine j_iload_n hX dX8_ask_4 rfl 1 rfl ?_
    refine j_bipush hX 9 dX8_ask_5 (by decide) ?_
    refine j_icmp_gt hX 20 dX8_ask_7 (by decide) hf (fun c7 hf => ?_) (fun c7 hf => ?_)
    · refine j_iconst hX (-1) dX8_ask_20 (by decide) ?_
      cases hf
      exact j_iret hX hE dX8_ask_21 (Nat.le_refl _) (Nat.le_refl _) ⟨rfl, rfl⟩
    · refine j_iload_n hX dX8_ask_10 rfl 2 rfl ?_
      refine j_if_lt hX 20 dX8_ask_11 (by decide) hf (fun c11 hf => ?_) (fun c11 hf => ?_)
      · refine j_iconst hX (-1) dX8_ask_20 (by decide) ?_
        cases hf
        exact j_iret hX hE dX8_ask_21 (Nat.le_refl _) (Nat.le_refl _) ⟨rfl, rfl⟩
      · refine j_iload_n hX dX8_ask_14 rfl 2 rfl ?_
        refine j_bipush hX 60 dX8_ask_15 (by decide) ?_
        refine j_icmp_le hX 22 dX8_ask_17 (by decide) hf (fun c17 hf => ?_) (fun c17 hf => ?_)
        · refine j_iload_n hX dX8_ask_22 rfl 3 rfl ?_
          refine j_if_lt hX 32 dX8_ask_23 (by decide) hf (fun c23 hf => ?_) (fun c23 hf => ?_)
          · refine j_iconst hX (-1) dX8_ask_32 (by decide) ?_
            cases hf
            exact j_iret hX hE dX8_ask_33 (Nat.le_refl _) (Nat.le_refl _) ⟨rfl, rfl⟩
          · refine j_iload_n hX dX8_ask_26 rfl 3 rfl ?_
            refine j_bipush hX 12 dX8_ask_27 (by decide) ?_
            refine j_icmp_le hX 34 dX8_ask_29 (by decide) hf (fun c29 hf => ?_) (fun c29 hf => ?_)
            · refine j_iload hX dX8_ask_34 4 rfl ?_
              refine j_aload_n hX dX8_ask_36 rfl 0 rfl ?_
              refine j_get hX dX8_ask_37 inX8 3 q98 0 rfl rfl (by decide) rfl rfl ?_
              refine j_icmp_le hX 62 dX8_ask_40 (by decide) hf (fun c40 hf => ?_) (fun c40 hf => ?_)
              · refine j_iconst hX (-1) dX8_ask_62 (by decide) ?_
                cases hf
                exact j_iret hX hE dX8_ask_63 (Nat.le_refl _) (Nat.le_refl _) ⟨rfl, rfl⟩
              · refine j_iload hX dX8_ask_43 5 rfl ?_
                refine j_iload hX dX8_ask_45 4 rfl ?_
                refine j_icmp_lt hX 62 dX8_ask_47 (by decide) hf (fun c47 hf => ?_) (fun c47 hf => ?_)
                · refine j_iconst hX (-1) dX8_ask_62 (by decide) ?_
                  cases hf
                  exact j_iret hX hE dX8_ask_63 (Nat.le_refl _) (Nat.le_refl _) ⟨rfl, rfl⟩
                · refine j_iload hX dX8_ask_50 5 rfl ?_
                  refine j_aload_n hX dX8_ask_52 rfl 0 rfl ?_
                  refine j_get hX dX8_ask_53 inX8 3 q98 0 rfl rfl (by decide) rfl rfl ?_
                  refine j_bipush hX 40 dX8_ask_56 (by decide) ?_
                  refine j_iadd hX dX8_ask_58 ?_
                  refine j_icmp_le hX 64 dX8_ask_59 (by decide) hf (fun c59 hf => ?_) (fun c59 hf => ?_)
                  · refine j_aload_n hX dX8_ask_64 rfl 0 rfl ?_
                    refine j_get hX dX8_ask_65 inX8 1 q93 0 rfl rfl (by decide) rfl rfl ?_
                    obtain ⟨u1, h2, hf⟩ := jbind hf
                    refine j_callV (st := []) hX (k_X5_isFull (l := l) (D := D) (t := t) (ad := ad) (o := o + 8) r_count r_nextId r_ids r_borrowers r_pitches r_tolerances r_firstDays r_lastDays  u1 h2) q679 q680 q681 q5 q682 (n9 := 0) rfl ⟨by decide +kernel, by decide +kernel⟩ 0 rfl rfl rfl dX8_ask_68 (Nat.le_of_ble_eq_true rfl) ⟨Nat.le_refl _, Nat.le_refl _⟩ (frS_requests t ad o h_count h_pitches h_wears h_slots h_borrowers h_dueDays h_contents b_count b_hammers b_borrowers b_firstDays b_lastDays s_day s_coins s_bookingCoins s_lateCoins s_faceCosts s_broken s_lent) (frS_requests_ok t ad o h_count h_pitches h_wears h_slots h_borrowers h_dueDays h_contents b_count b_hammers b_borrowers b_firstDays b_lastDays s_day s_coins s_bookingCoins s_lateCoins s_faceCosts s_broken s_lent) rfl rfl (fun v w hvw => ?_)
                    obtain ⟨rfl, rfl⟩ := hvw
                    change J X 0 0 (wS t ad o h_count h_pitches h_wears h_slots h_borrowers h_dueDays h_contents r_count r_nextId r_ids r_borrowers r_pitches r_tolerances r_firstDays r_lastDays b_count b_hammers b_borrowers b_firstDays b_lastDays s_day s_coins s_bookingCoins s_lateCoins s_faceCosts s_broken s_lent) 71 [(0, .ref (ad o)), (1, .int a0), (2, .int a1), (3, .int a2), (4, .int a3), (5, .int a4)] [.int u1]
                    refine j_if_eq hX 77 dX8_ask_71 (by decide) hf (fun c71 hf => ?_) (fun c71 hf => ?_)
                    · refine j_aload_n hX dX8_ask_77 rfl 0 rfl ?_
                      refine j_get hX dX8_ask_78 inX8 1 q93 0 rfl rfl (by decide) rfl rfl ?_
                      refine j_iload_n hX dX8_ask_81 rfl 1 rfl ?_
                      refine j_iload_n hX dX8_ask_82 rfl 2 rfl ?_
                      refine j_iload_n hX dX8_ask_83 rfl 3 rfl ?_
                      refine j_iload hX dX8_ask_84 4 rfl ?_
                      refine j_iload hX dX8_ask_86 5 rfl ?_
                      obtain ⟨u3, h4, hf⟩ := jbind hf
                      refine j_callV (st := []) hX (k_X5_add (l := l) (D := D) (t := t) (ad := ad) (o := o + 8) r_count r_nextId r_ids r_borrowers r_pitches r_tolerances r_firstDays r_lastDays a0 a1 a2 a3 a4 u3 h4) q683 q684 q685 q5 q686 (n9 := 5) rfl ⟨by decide +kernel, by decide +kernel⟩ 0 rfl rfl rfl dX8_ask_88 (Nat.le_of_ble_eq_true rfl) ⟨Nat.le_refl _, Nat.le_refl _⟩ (frS_requests t ad o h_count h_pitches h_wears h_slots h_borrowers h_dueDays h_contents b_count b_hammers b_borrowers b_firstDays b_lastDays s_day s_coins s_bookingCoins s_lateCoins s_faceCosts s_broken s_lent) (frS_requests_ok t ad o h_count h_pitches h_wears h_slots h_borrowers h_dueDays h_contents b_count b_hammers b_borrowers b_firstDays b_lastDays s_day s_coins s_bookingCoins s_lateCoins s_faceCosts s_broken s_lent) rfl rfl (fun v w hvw => ?_)
                      obtain ⟨rfl, rfl⟩ := hvw
                      change J X 0 0 (wS t ad o h_count h_pitches h_wears h_slots h_borrowers h_dueDays h_contents u3.2.1 u3.2.2.1 u3.2.2.2.1 u3.2.2.2.2.1 u3.2.2.2.2.2.1 u3.2.2.2.2.2.2.1 u3.2.2.2.2.2.2.2.1 u3.2.2.2.2.2.2.2.2 b_count b_hammers b_borrowers b_firstDays b_lastDays s_day s_coins s_bookingCoins s_lateCoins s_faceCosts s_broken s_lent) 91 [(0, .ref (ad o)), (1, .int a0), (2, .int a1), (3, .int a2), (4, .int a3), (5, .int a4)] [.int u3.1]
                      cases hf
                      exact j_iret hX hE dX8_ask_91 (Nat.le_refl _) (Nat.le_refl _) ⟨rfl, rfl⟩
                    · refine j_bipush hX (-3) dX8_ask_74 (by decide) ?_
                      cases hf
                      exact j_iret hX hE dX8_ask_76 (Nat.le_refl _) (Nat.le_refl _) ⟨rfl, rfl⟩
                  · refine j_iconst hX (-1) dX8_ask_62 (by decide) ?_
                    cases hf
                    exact j_iret hX hE dX8_ask_63 (Nat.le_refl _) (Nat.le_refl _) ⟨rfl, rfl⟩
            · refine j_iconst hX (-1) dX8_ask_32 (by decide) ?_
              cases hf
              exact j_iret hX hE dX8_ask_33 (Nat.le_refl _) (Nat.le_refl _) ⟨rfl, rfl⟩
        · refine j_iconst hX (-1) dX8_ask_20 (by decide) ?_
          cases hf
          exact j_iret hX hE dX8_ask_21 (Nat.le_refl _) (Nat.le_refl _) ⟨rfl, rfl⟩
-- HammerDepot$State drop (I)I
def f_X8_drop (r_count : Int32) (r_ids : Nat → Int32) (r_borrowers : Nat → Int32) (r_pitches : Nat → Int32) (r_tolerances : Nat → Int32) (r_firstDays : Nat → Int32) (r_lastDays : Nat → Int32) (a0 : Int32) : Option (Int32 × Int32 × (Nat → Int32) × (Nat → Int32) × (Nat → Int32) × (Nat → Int32) × (Nat → Int32) × (Nat → Int32)) :=
  Option.bind (f_X5_positionOf r_count r_ids a0) (fun u1 =>
    if u1 = (-1) then
      some ((-4), r_count, r_ids, r_borrowers, r_pitches, r_tolerances, r_firstDays, r_lastDays)
    else
      Option.bind (f_X5_remove r_count r_ids r_borrowers r_pitches r_tolerances r_firstDays r_lastDays u1) (fun u3 =>
        Option.bind (f_X5_size u3.1) (fun u5 =>
          some (u5, u3.1, u3.2.1, u3.2.2.1, u3.2.2.2.1, u3.2.2.2.2.1, u3.2.2.2.2.2.1, u3.2.2.2.2.2.2))))
set_option maxHeartbeats 4000000 in
set_option maxRecDepth 100000 in
theorem k_X8_drop {l : Launch} {D : va_G} {t : Nat → ClassId} {ad : Nat → Nat} {o : Nat} (h_count : Int32) (h_pitches : Nat → Int32) (h_wears : Nat → Int32) (h_slots : Nat → Int32) (h_borrowers : Nat → Int32) (h_dueDays : Nat → Int32) (h_contents : Nat → Int32) (r_count : Int32) (r_nextId : Int32) (r_ids : Nat → Int32) (r_borrowers : Nat → Int32) (r_pitches : Nat → Int32) (r_tolerances : Nat → Int32) (r_firstDays : Nat → Int32) (r_lastDays : Nat → Int32) (b_count : Int32) (b_hammers : Nat → Int32) (b_borrowers : Nat → Int32) (b_firstDays : Nat → Int32) (b_lastDays : Nat → Int32) (s_day : Int32) (s_coins : Int32) (s_bookingCoins : Int32) (s_lateCoins : Int32) (s_faceCosts : Int32) (s_broken : Int32) (s_lent : Int32) (a0 : Int32) (u : Int32 × Int32 × (Nat → Int32) × (Nat → Int32) × (Nat → Int32) × (Nat → Int32) × (Nat → Int32) × (Nat → Int32)) (hf : f_X8_drop r_count r_ids r_borrowers r_pitches r_tolerances r_firstDays r_lastDays a0 = some u) : cm l D (jT t) yX8_drop cX8_drop 3 (some FieldType.int) { frames := 3, cells := 0, slots := 0, locals := 64 } [.ref (ad o), .int a0] (wS t ad o h_count h_pitches h_wears h_slots h_borrowers h_dueDays h_contents r_count r_nextId r_ids r_borrowers r_pitches r_tolerances r_firstDays r_lastDays b_count b_hammers b_borrowers b_firstDays b_lastDays s_day s_coins s_bookingCoins s_lateCoins s_faceCosts s_broken s_lent) (fun v w => v = (some (.int u.1)) ∧ w = wS t ad o h_count h_pitches h_wears h_slots h_borrowers h_dueDays h_contents u.2.1 r_nextId u.2.2.1 u.2.2.2.1 u.2.2.2.2.1 u.2.2.2.2.2.1 u.2.2.2.2.2.2.1 u.2.2.2.2.2.2.2 b_count b_hammers b_borrowers b_firstDays b_lastDays s_day s_coins s_bookingCoins s_lateCoins s_faceCosts s_broken s_lent) := by
  refine cm_of RX8 rfl (by decide +kernel) (Nat.le_of_ble_eq_true rfl) (fun X hX hE => ?_)
  change J X 0 0 (wS t ad o h_count h_pitches h_wears h_slots h_borrowers h_dueDays h_contents r_count r_nextId r_ids r_borrowers r_pitches r_tolerances r_firstDays r_lastDays b_count b_hammers b_borrowers b_firstDays b_lastDays s_day s_coins s_bookingCoins s_lateCoins s_faceCosts s_broken s_lent) 0 [(0, .ref (ad o)), (1, .int a0)] []
  unfold f_X8_drop at hf
  refine j_aload_n hX dX8_drop_0 rfl 0 rfl ?_
  refine j_get hX dX8_drop_1 inX8 1 q93 0 rfl rfl (by decide) rfl rfl ?_
  refine j_iload_n hX dX8_drop_4 rfl 1 rfl ?_
  obtain ⟨u1, h2, hf⟩ := jbind hf
  refine j_callV (st := []) hX (k_X5_positionOf (l := l) (D := D) (t := t) (ad := ad) (o := o + 8) r_count r_nextId r_ids r_borrowers r_pitches r_tolerances r_firstDays r_lastDays a0 u1 h2) q700 q701 q702 q5 q703 (n9 := 1) rfl ⟨by decide +kernel, by decide +kernel⟩ 0 rfl rfl rfl dX8_drop_5 (Nat.le_of_ble_eq_true rfl) ⟨Nat.le_refl _, Nat.le_refl _⟩ (frS_requests t ad o h_count h_pitches h_wears h_slots h_borrowers h_dueDays h_contents b_count b_hammers b_borrowers b_firstDays b_lastDays s_day s_coins s_bookingCoins s_lateCoins s_faceCosts s_broken s_lent) (frS_requests_ok t ad o h_count h_pitches h_wears h_slots h_borrowers h_dueDays h_contents b_count b_hammers b_borrowers b_firstDays b_lastDays s_day s_coins s_bookingCoins s_lateCoins s_faceCosts s_broken s_lent) rfl rfl (fun v w hvw => ?_)
  obtain ⟨rfl, rfl⟩ := hvw
  change J X 0 0 (wS t ad o h_count h_pitches h_wears h_slots h_borrowers h_dueDays h_contents r_count r_nextId r_ids r_borrowers r_pitches r_tolerances r_firstDays r_lastDays b_count b_hammers b_borrowers b_firstDays b_lastDays s_day s_coins s_bookingCoins s_lateCoins s_faceCosts s_broken s_lent) 8 [(0, .ref (ad o)), (1, .int a0)] [.int u1]
  refine j_istore_n hX [(2, .int u1), (0, .ref (ad o)), (1, .int a0)] dX8_drop_8 rfl (by decide) rfl ?_
  refine j_iload_n hX dX8_drop_9 rfl 0 rfl ?_
  refine j_iconst hX (-1) dX8_drop_10 (by decide) ?_
  refine j_icmp_ne hX 17 dX8_drop_11 (by decide) hf (fun c11 hf => ?_) (fun c11 hf => ?_)
  · refine j_aload_n hX dX8_drop_17 rfl 1 rfl ?_
    refine j_get hX dX8_drop_18 inX8 1 q93 0 rfl rfl (by decide) rfl rfl ?_
    refine j_iload_n hX dX8_drop_21 rfl 0 rfl ?_
    obtain ⟨u3, h4, hf⟩ := jbind hf
    refine j_callV (st := []) hX (k_X5_remove (l := l) (D := D) (t := t) (ad := ad) (o := o + 8) r_count r_nextId r_ids r_borrowers r_pitches r_tolerances r_firstDays r_lastDays u1 u3 h4) q243 q244 q245 q5 q246 (n9 := 1) rfl ⟨by decide +kernel, by decide +kernel⟩ 0 rfl rfl rfl dX8_drop_22 (Nat.le_of_ble_eq_true rfl) ⟨Nat.le_refl _, Nat.le_refl _⟩ (frS_requests t ad o h_count h_pitches h_wears h_slots h_borrowers h_dueDays h_contents b_count b_hammers b_borrowers b_firstDays b_lastDays s_day s_coins s_bookingCoins s_lateCoins s_faceCosts s_broken s_lent) (frS_requests_ok t ad o h_count h_pitches h_wears h_slots h_borrowers h_dueDays h_contents b_count b_hammers b_borrowers b_firstDays b_lastDays s_day s_coins s_bookingCoins s_lateCoins s_faceCosts s_broken s_lent) rfl rfl (fun v w hvw => ?_)
    obtain ⟨rfl, rfl⟩ := hvw
    change J X 0 0 (wS t ad o h_count h_pitches h_wears h_slots h_borrowers h_dueDays h_contents u3.1 r_nextId u3.2.1 u3.2.2.1 u3.2.2.2.1 u3.2.2.2.2.1 u3.2.2.2.2.2.1 u3.2.2.2.2.2.2 b_count b_hammers b_borrowers b_firstDays b_lastDays s_day s_coins s_bookingCoins s_lateCoins s_faceCosts s_broken s_lent) 25 [(2, .int u1), (0, .ref (ad o)), (1, .int a0)] []
    refine j_aload_n hX dX8_drop_25 rfl 1 rfl ?_
    refine j_get hX dX8_drop_26 inX8 1 q93 0 rfl rfl (by decide) rfl rfl ?_
    obtain ⟨u5, h6, hf⟩ := jbind hf
    refine j_callV (st := []) hX (k_X5_size (l := l) (D := D) (t := t) (ad := ad) (o := o + 8) u3.1 r_nextId u3.2.1 u3.2.2.1 u3.2.2.2.1 u3.2.2.2.2.1 u3.2.2.2.2.2.1 u3.2.2.2.2.2.2  u5 h6) q231 q232 q233 q5 q234 (n9 := 0) rfl ⟨by decide +kernel, by decide +kernel⟩ 0 rfl rfl rfl dX8_drop_29 (Nat.le_of_ble_eq_true rfl) ⟨Nat.le_refl _, Nat.le_refl _⟩ (frS_requests t ad o h_count h_pitches h_wears h_slots h_borrowers h_dueDays h_contents b_count b_hammers b_borrowers b_firstDays b_lastDays s_day s_coins s_bookingCoins s_lateCoins s_faceCosts s_broken s_lent) (frS_requests_ok t ad o h_count h_pitches h_wears h_slots h_borrowers h_dueDays h_contents b_count b_hammers b_borrowers b_firstDays b_lastDays s_day s_coins s_bookingCoins s_lateCoins s_faceCosts s_broken s_lent) rfl rfl (fun v w hvw => ?_)
    obtain ⟨rfl, rfl⟩ := hvw
    change J X 0 0 (wS t ad o h_count h_pitches h_wears h_slots h_borrowers h_dueDays h_contents u3.1 r_nextId u3.2.1 u3.2.2.1 u3.2.2.2.1 u3.2.2.2.2.1 u3.2.2.2.2.2.1 u3.2.2.2.2.2.2 b_count b_hammers b_borrowers b_firstDays b_lastDays s_day s_coins s_bookingCoins s_lateCoins s_faceCosts s_broken s_lent) 32 [(2, .int u1), (0, .ref (ad o)), (1, .int a0)] [.int u5]
    cases hf
    exact j_iret hX hE dX8_drop_32 (Nat.le_refl _) (Nat.le_refl _) ⟨rfl, rfl⟩
  · refine j_bipush hX (-4) dX8_drop_14 (by decide) ?_
    cases hf
    exact j_iret hX hE dX8_drop_16 (Nat.le_refl _) (Nat.le_refl _) ⟨rfl, rfl⟩
-- HammerDepot$State remoteness (II)I
def f_X8_remoteness (h_count : Int32) (h_pitches : Nat → Int32) (h_wears : Nat → Int32) (r_count : Int32) (r_pitches : Nat → Int32) (a0 : Int32) (a1 : Int32) : Option (Int32) :=
  Option.bind (f_X2_pitchOf h_count h_pitches a1) (fun u1 =>
    Option.bind (f_X5_pitchAt r_count r_pitches a0) (fun u3 =>
      Option.bind (f_X2_wearOf h_count h_wears a1) (fun u5 =>
        some (((jabs (u1 - u3)) * 101) + u5))))
set_option maxHeartbeats 4000000 in
set_option maxRecDepth 100000 in
theorem k_X8_remoteness {l : Launch} {D : va_G} {t : Nat → ClassId} {ad : Nat → Nat} {o : Nat} (h_count : Int32) (h_pitches : Nat → Int32) (h_wears : Nat → Int32) (h_slots : Nat → Int32) (h_borrowers : Nat → Int32) (h_dueDays : Nat → Int32) (h_contents : Nat → Int32) (r_count : Int32) (r_nextId : Int32) (r_ids : Nat → Int32) (r_borrowers : Nat → Int32) (r_pitches : Nat → Int32) (r_tolerances : Nat → Int32) (r_firstDays : Nat → Int32) (r_lastDays : Nat → Int32) (b_count : Int32) (b_hammers : Nat → Int32) (b_borrowers : Nat → Int32) (b_firstDays : Nat → Int32) (b_lastDays : Nat → Int32) (s_day : Int32) (s_coins : Int32) (s_bookingCoins : Int32) (s_lateCoins : Int32) (s_faceCosts : Int32) (s_broken : Int32) (s_lent : Int32) (a0 : Int32) (a1 : Int32) (u : Int32) (hf : f_X8_remoteness h_count h_pitches h_wears r_count r_pitches a0 a1 = some u) : cm l D (jT t) yX8_remoteness cX8_remoteness 4 (some FieldType.int) { frames := 2, cells := 0, slots := 0, locals := 42 } [.ref (ad o), .int a0, .int a1] (wS t ad o h_count h_pitches h_wears h_slots h_borrowers h_dueDays h_contents r_count r_nextId r_ids r_borrowers r_pitches r_tolerances r_firstDays r_lastDays b_count b_hammers b_borrowers b_firstDays b_lastDays s_day s_coins s_bookingCoins s_lateCoins s_faceCosts s_broken s_lent) (fun v w => v = (some (.int u)) ∧ w = wS t ad o h_count h_pitches h_wears h_slots h_borrowers h_dueDays h_contents r_count r_nextId r_ids r_borrowers r_pitches r_tolerances r_firstDays r_lastDays b_count b_hammers b_borrowers b_firstDays b_lastDays s_day s_coins s_bookingCoins s_lateCoins s_faceCosts s_broken s_lent) := by
  refine cm_of RX8 rfl (by decide +kernel) (Nat.le_of_ble_eq_true rfl) (fun X hX hE => ?_)
  change J X 0 0 (wS t ad o h_count h_pitches h_wears h_slots h_borrowers h_dueDays h_contents r_count r_nextId r_ids r_borrowers r_pitches r_tolerances r_firstDays r_lastDays b_count b_hammers b_borrowers b_firstDays b_lastDays s_day s_coins s_bookingCoins s_lateCoins s_faceCosts s_broken s_lent) 0 [(0, .ref (ad o)), (1, .int a0), (2, .int a1)] []
  unfold f_X8_remoteness at hf
  refine j_aload_n hX dX8_remoteness_0 rfl 0 rfl ?_
  refine j_get hX dX8_remoteness_1 inX8 0 q90 0 rfl rfl (by decide) rfl rfl ?_
  refine j_iload_n hX dX8_remoteness_4 rfl 2 rfl ?_
  obtain ⟨u1, h2, hf⟩ := jbind hf
  refine j_callV (st := []) hX (k_X2_pitchOf (l := l) (D := D) (t := t) (ad := ad) (o := o + 1) h_count h_pitches h_wears h_slots h_borrowers h_dueDays h_contents a1 u1 h2) q266 q267 q268 q3 q269 (n9 := 1) rfl ⟨by decide +kernel, by decide +kernel⟩ 0 rfl rfl rfl dX8_remoteness_5 (Nat.le_of_ble_eq_true rfl) ⟨Nat.le_refl _, Nat.le_refl _⟩ (frS_hammers t ad o r_count r_nextId r_ids r_borrowers r_pitches r_tolerances r_firstDays r_lastDays b_count b_hammers b_borrowers b_firstDays b_lastDays s_day s_coins s_bookingCoins s_lateCoins s_faceCosts s_broken s_lent) (frS_hammers_ok t ad o r_count r_nextId r_ids r_borrowers r_pitches r_tolerances r_firstDays r_lastDays b_count b_hammers b_borrowers b_firstDays b_lastDays s_day s_coins s_bookingCoins s_lateCoins s_faceCosts s_broken s_lent) rfl rfl (fun v w hvw => ?_)
  obtain ⟨rfl, rfl⟩ := hvw
  change J X 0 0 (wS t ad o h_count h_pitches h_wears h_slots h_borrowers h_dueDays h_contents r_count r_nextId r_ids r_borrowers r_pitches r_tolerances r_firstDays r_lastDays b_count b_hammers b_borrowers b_firstDays b_lastDays s_day s_coins s_bookingCoins s_lateCoins s_faceCosts s_broken s_lent) 8 [(0, .ref (ad o)), (1, .int a0), (2, .int a1)] [.int u1]
  refine j_aload_n hX dX8_remoteness_8 rfl 0 rfl ?_
  refine j_get hX dX8_remoteness_9 inX8 1 q93 0 rfl rfl (by decide) rfl rfl ?_
  refine j_iload_n hX dX8_remoteness_12 rfl 1 rfl ?_
  obtain ⟨u3, h4, hf⟩ := jbind hf
  refine j_callV (st := [.int u1]) hX (k_X5_pitchAt (l := l) (D := D) (t := t) (ad := ad) (o := o + 8) r_count r_nextId r_ids r_borrowers r_pitches r_tolerances r_firstDays r_lastDays a0 u3 h4) q271 q272 q273 q5 q274 (n9 := 1) rfl ⟨by decide +kernel, by decide +kernel⟩ 0 rfl rfl rfl dX8_remoteness_13 (Nat.le_of_ble_eq_true rfl) ⟨Nat.le_refl _, Nat.le_refl _⟩ (frS_requests t ad o h_count h_pitches h_wears h_slots h_borrowers h_dueDays h_contents b_count b_hammers b_borrowers b_firstDays b_lastDays s_day s_coins s_bookingCoins s_lateCoins s_faceCosts s_broken s_lent) (frS_requests_ok t ad o h_count h_pitches h_wears h_slots h_borrowers h_dueDays h_contents b_count b_hammers b_borrowers b_firstDays b_lastDays s_day s_coins s_bookingCoins s_lateCoins s_faceCosts s_broken s_lent) rfl rfl (fun v w hvw => ?_)
  obtain ⟨rfl, rfl⟩ := hvw
  change J X 0 0 (wS t ad o h_count h_pitches h_wears h_slots h_borrowers h_dueDays h_contents r_count r_nextId r_ids r_borrowers r_pitches r_tolerances r_firstDays r_lastDays b_count b_hammers b_borrowers b_firstDays b_lastDays s_day s_coins s_bookingCoins s_lateCoins s_faceCosts s_broken s_lent) 16 [(0, .ref (ad o)), (1, .int a0), (2, .int a1)] [.int u3, .int u1]
  refine j_isub hX dX8_remoteness_16 ?_
  refine j_mabs hX q275 dX8_remoteness_17 (Nat.le_of_ble_eq_true rfl) (by decide) ⟨Nat.le_refl _, Nat.le_refl _⟩ ?_
  refine j_istore_n hX [(3, .int (jabs (u1 - u3))), (0, .ref (ad o)), (1, .int a0), (2, .int a1)] dX8_remoteness_20 rfl (by decide) rfl ?_
  refine j_iload_n hX dX8_remoteness_21 rfl 0 rfl ?_
  refine j_bipush hX 101 dX8_remoteness_22 (by decide) ?_
  refine j_imul hX dX8_remoteness_24 ?_
  refine j_aload_n hX dX8_remoteness_25 rfl 1 rfl ?_
  refine j_get hX dX8_remoteness_26 inX8 0 q90 0 rfl rfl (by decide) rfl rfl ?_
  refine j_iload_n hX dX8_remoteness_29 rfl 3 rfl ?_
  obtain ⟨u5, h6, hf⟩ := jbind hf
  refine j_callV (st := [.int ((jabs (u1 - u3)) * 101)]) hX (k_X2_wearOf (l := l) (D := D) (t := t) (ad := ad) (o := o + 1) h_count h_pitches h_wears h_slots h_borrowers h_dueDays h_contents a1 u5 h6) q282 q283 q284 q3 q285 (n9 := 1) rfl ⟨by decide +kernel, by decide +kernel⟩ 0 rfl rfl rfl dX8_remoteness_30 (Nat.le_of_ble_eq_true rfl) ⟨Nat.le_refl _, Nat.le_refl _⟩ (frS_hammers t ad o r_count r_nextId r_ids r_borrowers r_pitches r_tolerances r_firstDays r_lastDays b_count b_hammers b_borrowers b_firstDays b_lastDays s_day s_coins s_bookingCoins s_lateCoins s_faceCosts s_broken s_lent) (frS_hammers_ok t ad o r_count r_nextId r_ids r_borrowers r_pitches r_tolerances r_firstDays r_lastDays b_count b_hammers b_borrowers b_firstDays b_lastDays s_day s_coins s_bookingCoins s_lateCoins s_faceCosts s_broken s_lent) rfl rfl (fun v w hvw => ?_)
  obtain ⟨rfl, rfl⟩ := hvw
  change J X 0 0 (wS t ad o h_count h_pitches h_wears h_slots h_borrowers h_dueDays h_contents r_count r_nextId r_ids r_borrowers r_pitches r_tolerances r_firstDays r_lastDays b_count b_hammers b_borrowers b_firstDays b_lastDays s_day s_coins s_bookingCoins s_lateCoins s_faceCosts s_broken s_lent) 33 [(3, .int (jabs (u1 - u3))), (0, .ref (ad o)), (1, .int a0), (2, .int a1)] [.int u5, .int ((jabs (u1 - u3)) * 101)]
  refine j_iadd hX dX8_remoteness_33 ?_
  cases hf
  exact j_iret hX hE dX8_remoteness_34 (Nat.le_refl _) (Nat.le_refl _) ⟨rfl, rfl⟩
-- HammerDepot$State suits (II)Z
def f_X8_suits (h_count : Int32) (h_pitches : Nat → Int32) (h_wears : Nat → Int32) (h_slots : Nat → Int32) (h_dueDays : Nat → Int32) (r_count : Int32) (r_pitches : Nat → Int32) (r_tolerances : Nat → Int32) (r_firstDays : Nat → Int32) (r_lastDays : Nat → Int32) (b_count : Int32) (b_hammers : Nat → Int32) (b_firstDays : Nat → Int32) (b_lastDays : Nat → Int32) (a0 : Int32) (a1 : Int32) : Option (Int32) :=
  Option.bind (f_X5_has r_count a0) (fun u1 =>
    if u1 = 0 then
      some 0
    else
      Option.bind (f_X2_has h_count a1) (fun u3 =>
        if u3 = 0 then
          some 0
        else
          Option.bind (f_X5_firstDayAt r_count r_firstDays a0) (fun u5 =>
            Option.bind (f_X2_pitchOf h_count h_pitches a1) (fun u7 =>
              Option.bind (f_X5_pitchAt r_count r_pitches a0) (fun u9 =>
                Option.bind (f_X5_toleranceAt r_count r_tolerances a0) (fun u11 =>
                  if u11 < (jabs (u7 - u9)) then
                    some 0
                  else
                    Option.bind (f_X2_wearOf h_count h_wears a1) (fun u13 =>
                      if 100 ≤ u13 then
                        some 0
                      else
                        Option.bind (f_X2_isAway h_count h_slots a1) (fun u15 =>
                          if u15 = 0 then
                            Option.bind (f_X5_lastDayAt r_count r_lastDays a0) (fun u17 =>
                              Option.bind (f_X0_meets b_count b_hammers b_firstDays b_lastDays a1 u5 u17) (fun u19 =>
                                if u19 = 0 then
                                  some 1
                                else
                                  some 0))
                          else
                            Option.bind (f_X2_dueDayOf h_count h_dueDays a1) (fun u21 =>
                              if u5 ≤ u21 then
                                some 0
                              else
                                Option.bind (f_X5_lastDayAt r_count r_lastDays a0) (fun u23 =>
                                  Option.bind (f_X0_meets b_count b_hammers b_firstDays b_lastDays a1 u5 u23) (fun u25 =>
                                    if u25 = 0 then
                                      some 1
                                    else
                                      some 0)))))))))))
set_option maxHeartbeats 4000000 in
set_option maxRecDepth 100000 in
theorem k_X8_suits {l : Launch} {D : va_G} {t : Nat → ClassId} {ad : Nat → Nat} {o : Nat} (h_count : Int32) (h_pitches : Nat → Int32) (h_wears : Nat → Int32) (h_slots : Nat → Int32) (h_borrowers : Nat → Int32) (h_dueDays : Nat → Int32) (h_contents : Nat → Int32) (r_count : Int32) (r_nextId : Int32) (r_ids : Nat → Int32) (r_borrowers : Nat → Int32) (r_pitches : Nat → Int32) (r_tolerances : Nat → Int32) (r_firstDays : Nat → Int32) (r_lastDays : Nat → Int32) (b_count : Int32) (b_hammers : Nat → Int32) (b_borrowers : Nat → Int32) (b_firstDays : Nat → Int32) (b_lastDays : Nat → Int32) (s_day : Int32) (s_coins : Int32) (s_bookingCoins : Int32) (s_lateCoins : Int32) (s_faceCosts : Int32) (s_broken : Int32) (s_lent : Int32) (a0 : Int32) (a1 : Int32) (u : Int32) (hf : f_X8_suits h_count h_pitches h_wears h_slots h_dueDays r_count r_pitches r_tolerances r_firstDays r_lastDays b_count b_hammers b_firstDays b_lastDays a0 a1 = some u) : cm l D (jT t) yX8_suits cX8_suits 4 (some FieldType.boolean) { frames := 2, cells := 0, slots := 0, locals := 45 } [.ref (ad o), .int a0, .int a1] (wS t ad o h_count h_pitches h_wears h_slots h_borrowers h_dueDays h_contents r_count r_nextId r_ids r_borrowers r_pitches r_tolerances r_firstDays r_lastDays b_count b_hammers b_borrowers b_firstDays b_lastDays s_day s_coins s_bookingCoins s_lateCoins s_faceCosts s_broken s_lent) (fun v w => v = (some (.int u)) ∧ w = wS t ad o h_count h_pitches h_wears h_slots h_borrowers h_dueDays h_contents r_count r_nextId r_ids r_borrowers r_pitches r_tolerances r_firstDays r_lastDays b_count b_hammers b_borrowers b_firstDays b_lastDays s_day s_coins s_bookingCoins s_lateCoins s_faceCosts s_broken s_lent) := by
  refine cm_of RX8 rfl (by decide +kernel) (Nat.le_of_ble_eq_true rfl) (fun X hX hE => ?_)
  change J X 0 0 (wS t ad o h_count h_pitches h_wears h_slots h_borrowers h_dueDays h_contents r_count r_nextId r_ids r_borrowers r_pitches r_tolerances r_firstDays r_lastDays b_count b_hammers b_borrowers b_firstDays b_lastDays s_day s_coins s_bookingCoins s_lateCoins s_faceCosts s_broken s_lent) 0 [(0, .ref (ad o)), (1, .int a0), (2, .int a1)] []
  unfold f_X8_suits at hf
  refine j_aload_n hX dX8_suits_0 rfl 0 rfl ?_
  refine j_get hX dX8_suits_1 inX8 1 q93 0 rfl rfl (by decide) rfl rfl ?_
  refine j_iload_n hX dX8_suits_4 rfl 1 rfl ?_
  obtain ⟨u1, h2, hf⟩ := jbind hf
  refine j_callV (st := []) hX (k_X5_has (l := l) (D := D) (t := t) (ad := ad) (o := o + 8) r_count r_nextId r_ids r_borrowers r_pitches r_tolerances r_firstDays r_lastDays a0 u1 h2) q261 q240 q241 q5 q242 (n9 := 1) rfl ⟨by decide +kernel, by decide +kernel⟩ 0 rfl rfl rfl dX8_suits_5 (Nat.le_of_ble_eq_true rfl) ⟨Nat.le_refl _, Nat.le_refl _⟩ (frS_requests t ad o h_count h_pitches h_wears h_slots h_borrowers h_dueDays h_contents b_count b_hammers b_borrowers b_firstDays b_lastDays s_day s_coins s_bookingCoins s_lateCoins s_faceCosts s_broken s_lent) (frS_requests_ok t ad o h_count h_pitches h_wears h_slots h_borrowers h_dueDays h_contents b_count b_hammers b_borrowers b_firstDays b_lastDays s_day s_coins s_bookingCoins s_lateCoins s_faceCosts s_broken s_lent) rfl rfl (fun v w hvw => ?_)
  obtain ⟨rfl, rfl⟩ := hvw
  change J X 0 0 (wS t ad o h_count h_pitches h_wears h_slots h_borrowers h_dueDays h_contents r_count r_nextId r_ids r_borrowers r_pitches r_tolerances r_firstDays r_lastDays b_count b_hammers b_borrowers b_firstDays b_lastDays s_day s_coins s_bookingCoins s_lateCoins s_faceCosts s_broken s_lent) 8 [(0, .ref (ad o)), (1, .int a0), (2, .int a1)] [.int u1]
  refine j_if_eq hX 22 dX8_suits_8 (by decide) hf (fun c8 hf => ?_) (fun c8 hf => ?_)
  · refine j_iconst hX 0 dX8_suits_22 (by decide) ?_
    cases hf
    exact j_zret hX hE rfl dX8_suits_23 (Nat.le_refl _) (Nat.le_refl _) ⟨rfl, rfl⟩
  · refine j_aload_n hX dX8_suits_11 rfl 0 rfl ?_
    refine j_get hX dX8_suits_12 inX8 0 q90 0 rfl rfl (by decide) rfl rfl ?_
    refine j_iload_n hX dX8_suits_15 rfl 2 rfl ?_
    obtain ⟨u3, h4, hf⟩ := jbind hf
    refine j_callV (st := []) hX (k_X2_has (l := l) (D := D) (t := t) (ad := ad) (o := o + 1) h_count h_pitches h_wears h_slots h_borrowers h_dueDays h_contents a1 u3 h4) q262 q263 q264 q3 q265 (n9 := 1) rfl ⟨by decide +kernel, by decide +kernel⟩ 0 rfl rfl rfl dX8_suits_16 (Nat.le_of_ble_eq_true rfl) ⟨Nat.le_refl _, Nat.le_refl _⟩ (frS_hammers t ad o r_count r_nextId r_ids r_borrowers r_pitches r_tolerances r_firstDays r_lastDays b_count b_hammers b_borrowers b_firstDays b_lastDays s_day s_coins s_bookingCoins s_lateCoins s_faceCosts s_broken s_lent) (frS_hammers_ok t ad o r_count r_nextId r_ids r_borrowers r_pitches r_tolerances r_firstDays r_lastDays b_count b_hammers b_borrowers b_firstDays b_lastDays s_day s_coins s_bookingCoins s_lateCoins s_faceCosts s_broken s_lent) rfl rfl (fun v w hvw => ?_)
    obtain ⟨rfl, rfl⟩ := hvw
    change J X 0 0 (wS t ad o h_count h_pitches h_wears h_slots h_borrowers h_dueDays h_contents r_count r_nextId r_ids r_borrowers r_pitches r_tolerances r_firstDays r_lastDays b_count b_hammers b_borrowers b_firstDays b_lastDays s_day s_coins s_bookingCoins s_lateCoins s_faceCosts s_broken s_lent) 19 [(0, .ref (ad o)), (1, .int a0), (2, .int a1)] [.int u3]
    refine j_if_ne hX 24 dX8_suits_19 (by decide) hf (fun c19 hf => ?_) (fun c19 hf => ?_)
    · refine j_aload_n hX dX8_suits_24 rfl 0 rfl ?_
      refine j_get hX dX8_suits_25 inX8 1 q93 0 rfl rfl (by decide) rfl rfl ?_
      refine j_iload_n hX dX8_suits_28 rfl 1 rfl ?_
      obtain ⟨u5, h6, hf⟩ := jbind hf
      refine j_callV (st := []) hX (k_X5_firstDayAt (l := l) (D := D) (t := t) (ad := ad) (o := o + 8) r_count r_nextId r_ids r_borrowers r_pitches r_tolerances r_firstDays r_lastDays a0 u5 h6) q235 q236 q237 q5 q238 (n9 := 1) rfl ⟨by decide +kernel, by decide +kernel⟩ 0 rfl rfl rfl dX8_suits_29 (Nat.le_of_ble_eq_true rfl) ⟨Nat.le_refl _, Nat.le_refl _⟩ (frS_requests t ad o h_count h_pitches h_wears h_slots h_borrowers h_dueDays h_contents b_count b_hammers b_borrowers b_firstDays b_lastDays s_day s_coins s_bookingCoins s_lateCoins s_faceCosts s_broken s_lent) (frS_requests_ok t ad o h_count h_pitches h_wears h_slots h_borrowers h_dueDays h_contents b_count b_hammers b_borrowers b_firstDays b_lastDays s_day s_coins s_bookingCoins s_lateCoins s_faceCosts s_broken s_lent) rfl rfl (fun v w hvw => ?_)
      obtain ⟨rfl, rfl⟩ := hvw
      change J X 0 0 (wS t ad o h_count h_pitches h_wears h_slots h_borrowers h_dueDays h_contents r_count r_nextId r_ids r_borrowers r_pitches r_tolerances r_firstDays r_lastDays b_count b_hammers b_borrowers b_firstDays b_lastDays s_day s_coins s_bookingCoins s_lateCoins s_faceCosts s_broken s_lent) 32 [(0, .ref (ad o)), (1, .int a0), (2, .int a1)] [.int u5]
      refine j_istore_n hX [(3, .int u5), (0, .ref (ad o)), (1, .int a0), (2, .int a1)] dX8_suits_32 rfl (by decide) rfl ?_
      refine j_aload_n hX dX8_suits_33 rfl 1 rfl ?_
      refine j_get hX dX8_suits_34 inX8 0 q90 0 rfl rfl (by decide) rfl rfl ?_
      refine j_iload_n hX dX8_suits_37 rfl 3 rfl ?_
      obtain ⟨u7, h8, hf⟩ := jbind hf
      refine j_callV (st := []) hX (k_X2_pitchOf (l := l) (D := D) (t := t) (ad := ad) (o := o + 1) h_count h_pitches h_wears h_slots h_borrowers h_dueDays h_contents a1 u7 h8) q266 q267 q268 q3 q269 (n9 := 1) rfl ⟨by decide +kernel, by decide +kernel⟩ 0 rfl rfl rfl dX8_suits_38 (Nat.le_of_ble_eq_true rfl) ⟨Nat.le_refl _, Nat.le_refl _⟩ (frS_hammers t ad o r_count r_nextId r_ids r_borrowers r_pitches r_tolerances r_firstDays r_lastDays b_count b_hammers b_borrowers b_firstDays b_lastDays s_day s_coins s_bookingCoins s_lateCoins s_faceCosts s_broken s_lent) (frS_hammers_ok t ad o r_count r_nextId r_ids r_borrowers r_pitches r_tolerances r_firstDays r_lastDays b_count b_hammers b_borrowers b_firstDays b_lastDays s_day s_coins s_bookingCoins s_lateCoins s_faceCosts s_broken s_lent) rfl rfl (fun v w hvw => ?_)
      obtain ⟨rfl, rfl⟩ := hvw
      change J X 0 0 (wS t ad o h_count h_pitches h_wears h_slots h_borrowers h_dueDays h_contents r_count r_nextId r_ids r_borrowers r_pitches r_tolerances r_firstDays r_lastDays b_count b_hammers b_borrowers b_firstDays b_lastDays s_day s_coins s_bookingCoins s_lateCoins s_faceCosts s_broken s_lent) 41 [(3, .int u5), (0, .ref (ad o)), (1, .int a0), (2, .int a1)] [.int u7]
      refine j_aload_n hX dX8_suits_41 rfl 1 rfl ?_
      refine j_get hX dX8_suits_42 inX8 1 q93 0 rfl rfl (by decide) rfl rfl ?_
      refine j_iload_n hX dX8_suits_45 rfl 2 rfl ?_
      obtain ⟨u9, h10, hf⟩ := jbind hf
      refine j_callV (st := [.int u7]) hX (k_X5_pitchAt (l := l) (D := D) (t := t) (ad := ad) (o := o + 8) r_count r_nextId r_ids r_borrowers r_pitches r_tolerances r_firstDays r_lastDays a0 u9 h10) q271 q272 q273 q5 q274 (n9 := 1) rfl ⟨by decide +kernel, by decide +kernel⟩ 0 rfl rfl rfl dX8_suits_46 (Nat.le_of_ble_eq_true rfl) ⟨Nat.le_refl _, Nat.le_refl _⟩ (frS_requests t ad o h_count h_pitches h_wears h_slots h_borrowers h_dueDays h_contents b_count b_hammers b_borrowers b_firstDays b_lastDays s_day s_coins s_bookingCoins s_lateCoins s_faceCosts s_broken s_lent) (frS_requests_ok t ad o h_count h_pitches h_wears h_slots h_borrowers h_dueDays h_contents b_count b_hammers b_borrowers b_firstDays b_lastDays s_day s_coins s_bookingCoins s_lateCoins s_faceCosts s_broken s_lent) rfl rfl (fun v w hvw => ?_)
      obtain ⟨rfl, rfl⟩ := hvw
      change J X 0 0 (wS t ad o h_count h_pitches h_wears h_slots h_borrowers h_dueDays h_contents r_count r_nextId r_ids r_borrowers r_pitches r_tolerances r_firstDays r_lastDays b_count b_hammers b_borrowers b_firstDays b_lastDays s_day s_coins s_bookingCoins s_lateCoins s_faceCosts s_broken s_lent) 49 [(3, .int u5), (0, .ref (ad o)), (1, .int a0), (2, .int a1)] [.int u9, .int u7]
      refine j_isub hX dX8_suits_49 ?_
      refine j_mabs hX q275 dX8_suits_50 (Nat.le_of_ble_eq_true rfl) (by decide) ⟨Nat.le_refl _, Nat.le_refl _⟩ ?_
      refine j_aload_n hX dX8_suits_53 rfl 1 rfl ?_
      refine j_get hX dX8_suits_54 inX8 1 q93 0 rfl rfl (by decide) rfl rfl ?_
      refine j_iload_n hX dX8_suits_57 rfl 2 rfl ?_
      obtain ⟨u11, h12, hf⟩ := jbind hf
      refine j_callV (st := [.int (jabs (u7 - u9))]) hX (k_X5_toleranceAt (l := l) (D := D) (t := t) (ad := ad) (o := o + 8) r_count r_nextId r_ids r_borrowers r_pitches r_tolerances r_firstDays r_lastDays a0 u11 h12) q278 q279 q280 q5 q281 (n9 := 1) rfl ⟨by decide +kernel, by decide +kernel⟩ 0 rfl rfl rfl dX8_suits_58 (Nat.le_of_ble_eq_true rfl) ⟨Nat.le_refl _, Nat.le_refl _⟩ (frS_requests t ad o h_count h_pitches h_wears h_slots h_borrowers h_dueDays h_contents b_count b_hammers b_borrowers b_firstDays b_lastDays s_day s_coins s_bookingCoins s_lateCoins s_faceCosts s_broken s_lent) (frS_requests_ok t ad o h_count h_pitches h_wears h_slots h_borrowers h_dueDays h_contents b_count b_hammers b_borrowers b_firstDays b_lastDays s_day s_coins s_bookingCoins s_lateCoins s_faceCosts s_broken s_lent) rfl rfl (fun v w hvw => ?_)
      obtain ⟨rfl, rfl⟩ := hvw
      change J X 0 0 (wS t ad o h_count h_pitches h_wears h_slots h_borrowers h_dueDays h_contents r_count r_nextId r_ids r_borrowers r_pitches r_tolerances r_firstDays r_lastDays b_count b_hammers b_borrowers b_firstDays b_lastDays s_day s_coins s_bookingCoins s_lateCoins s_faceCosts s_broken s_lent) 61 [(3, .int u5), (0, .ref (ad o)), (1, .int a0), (2, .int a1)] [.int u11, .int (jabs (u7 - u9))]
      refine j_icmp_gt hX 124 dX8_suits_61 (by decide) hf (fun c61 hf => ?_) (fun c61 hf => ?_)
      · refine j_iconst hX 0 dX8_suits_124 (by decide) ?_
        cases hf
        exact j_zret hX hE rfl dX8_suits_125 (Nat.le_refl _) (Nat.le_refl _) ⟨rfl, rfl⟩
      · refine j_aload_n hX dX8_suits_64 rfl 1 rfl ?_
        refine j_get hX dX8_suits_65 inX8 0 q90 0 rfl rfl (by decide) rfl rfl ?_
        refine j_iload_n hX dX8_suits_68 rfl 3 rfl ?_
        obtain ⟨u13, h14, hf⟩ := jbind hf
        refine j_callV (st := []) hX (k_X2_wearOf (l := l) (D := D) (t := t) (ad := ad) (o := o + 1) h_count h_pitches h_wears h_slots h_borrowers h_dueDays h_contents a1 u13 h14) q282 q283 q284 q3 q285 (n9 := 1) rfl ⟨by decide +kernel, by decide +kernel⟩ 0 rfl rfl rfl dX8_suits_69 (Nat.le_of_ble_eq_true rfl) ⟨Nat.le_refl _, Nat.le_refl _⟩ (frS_hammers t ad o r_count r_nextId r_ids r_borrowers r_pitches r_tolerances r_firstDays r_lastDays b_count b_hammers b_borrowers b_firstDays b_lastDays s_day s_coins s_bookingCoins s_lateCoins s_faceCosts s_broken s_lent) (frS_hammers_ok t ad o r_count r_nextId r_ids r_borrowers r_pitches r_tolerances r_firstDays r_lastDays b_count b_hammers b_borrowers b_firstDays b_lastDays s_day s_coins s_bookingCoins s_lateCoins s_faceCosts s_broken s_lent) rfl rfl (fun v w hvw => ?_)
        obtain ⟨rfl, rfl⟩ := hvw
        change J X 0 0 (wS t ad o h_count h_pitches h_wears h_slots h_borrowers h_dueDays h_contents r_count r_nextId r_ids r_borrowers r_pitches r_tolerances r_firstDays r_lastDays b_count b_hammers b_borrowers b_firstDays b_lastDays s_day s_coins s_bookingCoins s_lateCoins s_faceCosts s_broken s_lent) 72 [(3, .int u5), (0, .ref (ad o)), (1, .int a0), (2, .int a1)] [.int u13]
        refine j_bipush hX 100 dX8_suits_72 (by decide) ?_
        refine j_icmp_ge hX 124 dX8_suits_74 (by decide) hf (fun c74 hf => ?_) (fun c74 hf => ?_)
        · refine j_iconst hX 0 dX8_suits_124 (by decide) ?_
          cases hf
          exact j_zret hX hE rfl dX8_suits_125 (Nat.le_refl _) (Nat.le_refl _) ⟨rfl, rfl⟩
        · refine j_aload_n hX dX8_suits_77 rfl 1 rfl ?_
          refine j_get hX dX8_suits_78 inX8 0 q90 0 rfl rfl (by decide) rfl rfl ?_
          refine j_iload_n hX dX8_suits_81 rfl 3 rfl ?_
          obtain ⟨u15, h16, hf⟩ := jbind hf
          refine j_callV (st := []) hX (k_X2_isAway (l := l) (D := D) (t := t) (ad := ad) (o := o + 1) h_count h_pitches h_wears h_slots h_borrowers h_dueDays h_contents a1 u15 h16) q286 q287 q288 q3 q289 (n9 := 1) rfl ⟨by decide +kernel, by decide +kernel⟩ 0 rfl rfl rfl dX8_suits_82 (Nat.le_of_ble_eq_true rfl) ⟨Nat.le_refl _, Nat.le_refl _⟩ (frS_hammers t ad o r_count r_nextId r_ids r_borrowers r_pitches r_tolerances r_firstDays r_lastDays b_count b_hammers b_borrowers b_firstDays b_lastDays s_day s_coins s_bookingCoins s_lateCoins s_faceCosts s_broken s_lent) (frS_hammers_ok t ad o r_count r_nextId r_ids r_borrowers r_pitches r_tolerances r_firstDays r_lastDays b_count b_hammers b_borrowers b_firstDays b_lastDays s_day s_coins s_bookingCoins s_lateCoins s_faceCosts s_broken s_lent) rfl rfl (fun v w hvw => ?_)
          obtain ⟨rfl, rfl⟩ := hvw
          change J X 0 0 (wS t ad o h_count h_pitches h_wears h_slots h_borrowers h_dueDays h_contents r_count r_nextId r_ids r_borrowers r_pitches r_tolerances r_firstDays r_lastDays b_count b_hammers b_borrowers b_firstDays b_lastDays s_day s_coins s_bookingCoins s_lateCoins s_faceCosts s_broken s_lent) 85 [(3, .int u5), (0, .ref (ad o)), (1, .int a0), (2, .int a1)] [.int u15]
          refine j_if_eq hX 100 dX8_suits_85 (by decide) hf (fun c85 hf => ?_) (fun c85 hf => ?_)
          · refine j_aload_n hX dX8_suits_100 rfl 1 rfl ?_
            refine j_get hX dX8_suits_101 inX8 2 q96 0 rfl rfl (by decide) rfl rfl ?_
            refine j_iload_n hX dX8_suits_104 rfl 3 rfl ?_
            refine j_iload_n hX dX8_suits_105 rfl 0 rfl ?_
            refine j_aload_n hX dX8_suits_106 rfl 1 rfl ?_
            refine j_get hX dX8_suits_107 inX8 1 q93 0 rfl rfl (by decide) rfl rfl ?_
            refine j_iload_n hX dX8_suits_110 rfl 2 rfl ?_
            obtain ⟨u17, h18, hf⟩ := jbind hf
            refine j_callV (st := [.int u5, .int a1, .ref (ad (o + 15))]) hX (k_X5_lastDayAt (l := l) (D := D) (t := t) (ad := ad) (o := o + 8) r_count r_nextId r_ids r_borrowers r_pitches r_tolerances r_firstDays r_lastDays a0 u17 h18) q294 q295 q296 q5 q297 (n9 := 1) rfl ⟨by decide +kernel, by decide +kernel⟩ 0 rfl rfl rfl dX8_suits_111 (Nat.le_of_ble_eq_true rfl) ⟨Nat.le_refl _, Nat.le_refl _⟩ (frS_requests t ad o h_count h_pitches h_wears h_slots h_borrowers h_dueDays h_contents b_count b_hammers b_borrowers b_firstDays b_lastDays s_day s_coins s_bookingCoins s_lateCoins s_faceCosts s_broken s_lent) (frS_requests_ok t ad o h_count h_pitches h_wears h_slots h_borrowers h_dueDays h_contents b_count b_hammers b_borrowers b_firstDays b_lastDays s_day s_coins s_bookingCoins s_lateCoins s_faceCosts s_broken s_lent) rfl rfl (fun v w hvw => ?_)
            obtain ⟨rfl, rfl⟩ := hvw
            change J X 0 0 (wS t ad o h_count h_pitches h_wears h_slots h_borrowers h_dueDays h_contents r_count r_nextId r_ids r_borrowers r_pitches r_tolerances r_firstDays r_lastDays b_count b_hammers b_borrowers b_firstDays b_lastDays s_day s_coins s_bookingCoins s_lateCoins s_faceCosts s_broken s_lent) 114 [(3, .int u5), (0, .ref (ad o)), (1, .int a0), (2, .int a1)] [.int u17, .int u5, .int a1, .ref (ad (o + 15))]
            obtain ⟨u19, h20, hf⟩ := jbind hf
            refine j_callV (st := []) hX (k_X0_meets (l := l) (D := D) (t := t) (ad := ad) (o := o + 15) b_count b_hammers b_borrowers b_firstDays b_lastDays a1 u5 u17 u19 h20) q298 q299 q300 q6 q301 (n9 := 3) rfl ⟨by decide +kernel, by decide +kernel⟩ 0 rfl rfl rfl dX8_suits_114 (Nat.le_of_ble_eq_true rfl) ⟨Nat.le_refl _, Nat.le_refl _⟩ (frS_bookings t ad o h_count h_pitches h_wears h_slots h_borrowers h_dueDays h_contents r_count r_nextId r_ids r_borrowers r_pitches r_tolerances r_firstDays r_lastDays s_day s_coins s_bookingCoins s_lateCoins s_faceCosts s_broken s_lent) (frS_bookings_ok t ad o h_count h_pitches h_wears h_slots h_borrowers h_dueDays h_contents r_count r_nextId r_ids r_borrowers r_pitches r_tolerances r_firstDays r_lastDays s_day s_coins s_bookingCoins s_lateCoins s_faceCosts s_broken s_lent) rfl rfl (fun v w hvw => ?_)
            obtain ⟨rfl, rfl⟩ := hvw
            change J X 0 0 (wS t ad o h_count h_pitches h_wears h_slots h_borrowers h_dueDays h_contents r_count r_nextId r_ids r_borrowers r_pitches r_tolerances r_firstDays r_lastDays b_count b_hammers b_borrowers b_firstDays b_lastDays s_day s_coins s_bookingCoins s_lateCoins s_faceCosts s_broken s_lent) 117 [(3, .int u5), (0, .ref (ad o)), (1, .int a0), (2, .int a1)] [.int u19]
            refine j_if_ne hX 124 dX8_suits_117 (by decide) hf (fun c117 hf => ?_) (fun c117 hf => ?_)
            · refine j_iconst hX 0 dX8_suits_124 (by decide) ?_
              cases hf
              exact j_zret hX hE rfl dX8_suits_125 (Nat.le_refl _) (Nat.le_refl _) ⟨rfl, rfl⟩
            · refine j_iconst hX 1 dX8_suits_120 (by decide) ?_
              refine j_goto hX 125 dX8_suits_121 (by decide) ?_
              cases hf
              exact j_zret hX hE rfl dX8_suits_125 (Nat.le_refl _) (Nat.le_refl _) ⟨rfl, rfl⟩
          · refine j_aload_n hX dX8_suits_88 rfl 1 rfl ?_
            refine j_get hX dX8_suits_89 inX8 0 q90 0 rfl rfl (by decide) rfl rfl ?_
            refine j_iload_n hX dX8_suits_92 rfl 3 rfl ?_
            obtain ⟨u21, h22, hf⟩ := jbind hf
            refine j_callV (st := []) hX (k_X2_dueDayOf (l := l) (D := D) (t := t) (ad := ad) (o := o + 1) h_count h_pitches h_wears h_slots h_borrowers h_dueDays h_contents a1 u21 h22) q290 q291 q292 q3 q293 (n9 := 1) rfl ⟨by decide +kernel, by decide +kernel⟩ 0 rfl rfl rfl dX8_suits_93 (Nat.le_of_ble_eq_true rfl) ⟨Nat.le_refl _, Nat.le_refl _⟩ (frS_hammers t ad o r_count r_nextId r_ids r_borrowers r_pitches r_tolerances r_firstDays r_lastDays b_count b_hammers b_borrowers b_firstDays b_lastDays s_day s_coins s_bookingCoins s_lateCoins s_faceCosts s_broken s_lent) (frS_hammers_ok t ad o r_count r_nextId r_ids r_borrowers r_pitches r_tolerances r_firstDays r_lastDays b_count b_hammers b_borrowers b_firstDays b_lastDays s_day s_coins s_bookingCoins s_lateCoins s_faceCosts s_broken s_lent) rfl rfl (fun v w hvw => ?_)
            obtain ⟨rfl, rfl⟩ := hvw
            change J X 0 0 (wS t ad o h_count h_pitches h_wears h_slots h_borrowers h_dueDays h_contents r_count r_nextId r_ids r_borrowers r_pitches r_tolerances r_firstDays r_lastDays b_count b_hammers b_borrowers b_firstDays b_lastDays s_day s_coins s_bookingCoins s_lateCoins s_faceCosts s_broken s_lent) 96 [(3, .int u5), (0, .ref (ad o)), (1, .int a0), (2, .int a1)] [.int u21]
            refine j_iload_n hX dX8_suits_96 rfl 0 rfl ?_
            refine j_icmp_ge hX 124 dX8_suits_97 (by decide) hf (fun c97 hf => ?_) (fun c97 hf => ?_)
            · refine j_iconst hX 0 dX8_suits_124 (by decide) ?_
              cases hf
              exact j_zret hX hE rfl dX8_suits_125 (Nat.le_refl _) (Nat.le_refl _) ⟨rfl, rfl⟩
            · refine j_aload_n hX dX8_suits_100 rfl 1 rfl ?_
              refine j_get hX dX8_suits_101 inX8 2 q96 0 rfl rfl (by decide) rfl rfl ?_
              refine j_iload_n hX dX8_suits_104 rfl 3 rfl ?_
              refine j_iload_n hX dX8_suits_105 rfl 0 rfl ?_
              refine j_aload_n hX dX8_suits_106 rfl 1 rfl ?_
              refine j_get hX dX8_suits_107 inX8 1 q93 0 rfl rfl (by decide) rfl rfl ?_
              refine j_iload_n hX dX8_suits_110 rfl 2 rfl ?_
              obtain ⟨u23, h24, hf⟩ := jbind hf
              refine j_callV (st := [.int u5, .int a1, .ref (ad (o + 15))]) hX (k_X5_lastDayAt (l := l) (D := D) (t := t) (ad := ad) (o := o + 8) r_count r_nextId r_ids r_borrowers r_pitches r_tolerances r_firstDays r_lastDays a0 u23 h24) q294 q295 q296 q5 q297 (n9 := 1) rfl ⟨by decide +kernel, by decide +kernel⟩ 0 rfl rfl rfl dX8_suits_111 (Nat.le_of_ble_eq_true rfl) ⟨Nat.le_refl _, Nat.le_refl _⟩ (frS_requests t ad o h_count h_pitches h_wears h_slots h_borrowers h_dueDays h_contents b_count b_hammers b_borrowers b_firstDays b_lastDays s_day s_coins s_bookingCoins s_lateCoins s_faceCosts s_broken s_lent) (frS_requests_ok t ad o h_count h_pitches h_wears h_slots h_borrowers h_dueDays h_contents b_count b_hammers b_borrowers b_firstDays b_lastDays s_day s_coins s_bookingCoins s_lateCoins s_faceCosts s_broken s_lent) rfl rfl (fun v w hvw => ?_)
              obtain ⟨rfl, rfl⟩ := hvw
              change J X 0 0 (wS t ad o h_count h_pitches h_wears h_slots h_borrowers h_dueDays h_contents r_count r_nextId r_ids r_borrowers r_pitches r_tolerances r_firstDays r_lastDays b_count b_hammers b_borrowers b_firstDays b_lastDays s_day s_coins s_bookingCoins s_lateCoins s_faceCosts s_broken s_lent) 114 [(3, .int u5), (0, .ref (ad o)), (1, .int a0), (2, .int a1)] [.int u23, .int u5, .int a1, .ref (ad (o + 15))]
              obtain ⟨u25, h26, hf⟩ := jbind hf
              refine j_callV (st := []) hX (k_X0_meets (l := l) (D := D) (t := t) (ad := ad) (o := o + 15) b_count b_hammers b_borrowers b_firstDays b_lastDays a1 u5 u23 u25 h26) q298 q299 q300 q6 q301 (n9 := 3) rfl ⟨by decide +kernel, by decide +kernel⟩ 0 rfl rfl rfl dX8_suits_114 (Nat.le_of_ble_eq_true rfl) ⟨Nat.le_refl _, Nat.le_refl _⟩ (frS_bookings t ad o h_count h_pitches h_wears h_slots h_borrowers h_dueDays h_contents r_count r_nextId r_ids r_borrowers r_pitches r_tolerances r_firstDays r_lastDays s_day s_coins s_bookingCoins s_lateCoins s_faceCosts s_broken s_lent) (frS_bookings_ok t ad o h_count h_pitches h_wears h_slots h_borrowers h_dueDays h_contents r_count r_nextId r_ids r_borrowers r_pitches r_tolerances r_firstDays r_lastDays s_day s_coins s_bookingCoins s_lateCoins s_faceCosts s_broken s_lent) rfl rfl (fun v w hvw => ?_)
              obtain ⟨rfl, rfl⟩ := hvw
              change J X 0 0 (wS t ad o h_count h_pitches h_wears h_slots h_borrowers h_dueDays h_contents r_count r_nextId r_ids r_borrowers r_pitches r_tolerances r_firstDays r_lastDays b_count b_hammers b_borrowers b_firstDays b_lastDays s_day s_coins s_bookingCoins s_lateCoins s_faceCosts s_broken s_lent) 117 [(3, .int u5), (0, .ref (ad o)), (1, .int a0), (2, .int a1)] [.int u25]
              refine j_if_ne hX 124 dX8_suits_117 (by decide) hf (fun c117 hf => ?_) (fun c117 hf => ?_)
              · refine j_iconst hX 0 dX8_suits_124 (by decide) ?_
                cases hf
                exact j_zret hX hE rfl dX8_suits_125 (Nat.le_refl _) (Nat.le_refl _) ⟨rfl, rfl⟩
              · refine j_iconst hX 1 dX8_suits_120 (by decide) ?_
                refine j_goto hX 125 dX8_suits_121 (by decide) ?_
                cases hf
                exact j_zret hX hE rfl dX8_suits_125 (Nat.le_refl _) (Nat.le_refl _) ⟨rfl, rfl⟩
    · refine j_iconst hX 0 dX8_suits_22 (by decide) ?_
      cases hf
      exact j_zret hX hE rfl dX8_suits_23 (Nat.le_refl _) (Nat.le_refl _) ⟨rfl, rfl⟩
-- HammerDepot$State bestFor (I)I
def f_X8_bestFor_L7 (h_count : Int32) (h_pitches : Nat → Int32) (h_wears : Nat → Int32) (h_slots : Nat → Int32) (h_dueDays : Nat → Int32) (r_count : Int32) (r_pitches : Nat → Int32) (r_tolerances : Nat → Int32) (r_firstDays : Nat → Int32) (r_lastDays : Nat → Int32) (b_count : Int32) (b_hammers : Nat → Int32) (b_firstDays : Nat → Int32) (b_lastDays : Nat → Int32) (x1 : Int32) : Nat → Int32 → Int32 → Int32 → Option (Int32 × Int32 × Int32)
  | 0, _, _, _ => none
  | jn + 1, x4, x3, x2 =>
    Option.bind (f_X2_size h_count) (fun u1 =>
      if u1 ≤ x4 then
        some (x4, x3, x2)
      else
        Option.bind (f_X8_remoteness h_count h_pitches h_wears r_count r_pitches x1 x4) (fun u3 =>
          Option.bind (f_X8_suits h_count h_pitches h_wears h_slots h_dueDays r_count r_pitches r_tolerances r_firstDays r_lastDays b_count b_hammers b_firstDays b_lastDays x1 x4) (fun u5 =>
            if u5 = 0 then
              f_X8_bestFor_L7 h_count h_pitches h_wears h_slots h_dueDays r_count r_pitches r_tolerances r_firstDays r_lastDays b_count b_hammers b_firstDays b_lastDays x1 jn (x4 + 1) x3 x2
            else
              if x2 = (-1) then
                f_X8_bestFor_L7 h_count h_pitches h_wears h_slots h_dueDays r_count r_pitches r_tolerances r_firstDays r_lastDays b_count b_hammers b_firstDays b_lastDays x1 jn (x4 + 1) u3 x4
              else
                if x3 ≤ u3 then
                  f_X8_bestFor_L7 h_count h_pitches h_wears h_slots h_dueDays r_count r_pitches r_tolerances r_firstDays r_lastDays b_count b_hammers b_firstDays b_lastDays x1 jn (x4 + 1) x3 x2
                else
                  f_X8_bestFor_L7 h_count h_pitches h_wears h_slots h_dueDays r_count r_pitches r_tolerances r_firstDays r_lastDays b_count b_hammers b_firstDays b_lastDays x1 jn (x4 + 1) u3 x4)))
def f_X8_bestFor (h_count : Int32) (h_pitches : Nat → Int32) (h_wears : Nat → Int32) (h_slots : Nat → Int32) (h_dueDays : Nat → Int32) (r_count : Int32) (r_pitches : Nat → Int32) (r_tolerances : Nat → Int32) (r_firstDays : Nat → Int32) (r_lastDays : Nat → Int32) (b_count : Int32) (b_hammers : Nat → Int32) (b_firstDays : Nat → Int32) (b_lastDays : Nat → Int32) (a0 : Int32) : Option (Int32) :=
  Option.bind (f_X8_bestFor_L7 h_count h_pitches h_wears h_slots h_dueDays r_count r_pitches r_tolerances r_firstDays r_lastDays b_count b_hammers b_firstDays b_lastDays a0 jFU 0 0 (-1)) (fun s8 =>
    some s8.2.2)
set_option maxHeartbeats 4000000 in
set_option maxRecDepth 100000 in
theorem k_X8_bestFor_L7 {l : Launch} {D : va_G} {t : Nat → ClassId} {ad : Nat → Nat} {o : Nat} (h_count : Int32) (h_pitches : Nat → Int32) (h_wears : Nat → Int32) (h_slots : Nat → Int32) (h_dueDays : Nat → Int32) (r_count : Int32) (r_pitches : Nat → Int32) (r_tolerances : Nat → Int32) (r_firstDays : Nat → Int32) (r_lastDays : Nat → Int32) (b_count : Int32) (b_hammers : Nat → Int32) (b_firstDays : Nat → Int32) (b_lastDays : Nat → Int32) (x1 : Int32) (h_borrowers : Nat → Int32) (h_contents : Nat → Int32) (r_nextId : Int32) (r_ids : Nat → Int32) (r_borrowers : Nat → Int32) (b_borrowers : Nat → Int32) (s_day : Int32) (s_coins : Int32) (s_bookingCoins : Int32) (s_lateCoins : Int32) (s_faceCosts : Int32) (s_broken : Int32) (s_lent : Int32) {X : jX} (hX : jOK X l D (jT t) cX8_bestFor RX8 (some FieldType.int) { frames := 3, cells := 0, slots := 0, locals := 68 } 6) :
    ∀ (jn : Nat) (x4 : Int32) (x3 : Int32) (x2 : Int32) (u : Int32 × Int32 × Int32) (hf : f_X8_bestFor_L7 h_count h_pitches h_wears h_slots h_dueDays r_count r_pitches r_tolerances r_firstDays r_lastDays b_count b_hammers b_firstDays b_lastDays x1 jn x4 x3 x2 = some u) (kx : ∀ s : Int32 × Int32 × Int32, u = s → J X 0 0 (wS t ad o h_count h_pitches h_wears h_slots h_borrowers h_dueDays h_contents r_count r_nextId r_ids r_borrowers r_pitches r_tolerances r_firstDays r_lastDays b_count b_hammers b_borrowers b_firstDays b_lastDays s_day s_coins s_bookingCoins s_lateCoins s_faceCosts s_broken s_lent) 61 [(4, .int s.1), (3, .int s.2.1), (2, .int s.2.2), (0, .ref (ad o)), (1, .int x1)] []), J X 0 0 (wS t ad o h_count h_pitches h_wears h_slots h_borrowers h_dueDays h_contents r_count r_nextId r_ids r_borrowers r_pitches r_tolerances r_firstDays r_lastDays b_count b_hammers b_borrowers b_firstDays b_lastDays s_day s_coins s_bookingCoins s_lateCoins s_faceCosts s_broken s_lent) 7 [(4, .int x4), (3, .int x3), (2, .int x2), (0, .ref (ad o)), (1, .int x1)] [] := by
  intro jn
  induction jn with
  | zero => intro x4 x3 x2 u hf; cases (show (none : Option (Int32 × Int32 × Int32)) = some u from hf)
  | succ jn ih =>
    intro x4 x3 x2 u hf kx
    unfold f_X8_bestFor_L7 at hf
    refine j_iload hX dX8_bestFor_7 0 rfl ?_
    refine j_aload_n hX dX8_bestFor_9 rfl 3 rfl ?_
    refine j_get hX dX8_bestFor_10 inX8 0 q90 0 rfl rfl (by decide) rfl rfl ?_
    obtain ⟨u1, h2, hf⟩ := jbind hf
    refine j_callV (st := [.int x4]) hX (k_X2_size (l := l) (D := D) (t := t) (ad := ad) (o := o + 1) h_count h_pitches h_wears h_slots h_borrowers h_dueDays h_contents  u1 h2) q724 q254 q255 q3 q256 (n9 := 0) rfl ⟨by decide +kernel, by decide +kernel⟩ 0 rfl rfl rfl dX8_bestFor_13 (Nat.le_of_ble_eq_true rfl) ⟨Nat.le_refl _, Nat.le_refl _⟩ (frS_hammers t ad o r_count r_nextId r_ids r_borrowers r_pitches r_tolerances r_firstDays r_lastDays b_count b_hammers b_borrowers b_firstDays b_lastDays s_day s_coins s_bookingCoins s_lateCoins s_faceCosts s_broken s_lent) (frS_hammers_ok t ad o r_count r_nextId r_ids r_borrowers r_pitches r_tolerances r_firstDays r_lastDays b_count b_hammers b_borrowers b_firstDays b_lastDays s_day s_coins s_bookingCoins s_lateCoins s_faceCosts s_broken s_lent) rfl rfl (fun v w hvw => ?_)
    obtain ⟨rfl, rfl⟩ := hvw
    change J X 0 0 (wS t ad o h_count h_pitches h_wears h_slots h_borrowers h_dueDays h_contents r_count r_nextId r_ids r_borrowers r_pitches r_tolerances r_firstDays r_lastDays b_count b_hammers b_borrowers b_firstDays b_lastDays s_day s_coins s_bookingCoins s_lateCoins s_faceCosts s_broken s_lent) 16 [(4, .int x4), (3, .int x3), (2, .int x2), (0, .ref (ad o)), (1, .int x1)] [.int u1, .int x4]
    refine j_icmp_ge hX 61 dX8_bestFor_16 (by decide) hf (fun c16 hf => ?_) (fun c16 hf => ?_)
    · cases hf
      exact kx _ rfl
    · refine j_aload_n hX dX8_bestFor_19 rfl 3 rfl ?_
      refine j_iload_n hX dX8_bestFor_20 rfl 4 rfl ?_
      refine j_iload hX dX8_bestFor_21 0 rfl ?_
      obtain ⟨u3, h4, hf⟩ := jbind hf
      refine j_callV (st := []) hX (k_X8_remoteness (l := l) (D := D) (t := t) (ad := ad) (o := o) h_count h_pitches h_wears h_slots h_borrowers h_dueDays h_contents r_count r_nextId r_ids r_borrowers r_pitches r_tolerances r_firstDays r_lastDays b_count b_hammers b_borrowers b_firstDays b_lastDays s_day s_coins s_bookingCoins s_lateCoins s_faceCosts s_broken s_lent x1 x4 u3 h4) q725 q726 q1931 q2 q727 (n9 := 2) rfl ⟨by decide +kernel, by decide +kernel⟩ 0 rfl rfl rfl dX8_bestFor_23 (Nat.le_of_ble_eq_true rfl) ⟨Nat.le_refl _, Nat.le_refl _⟩ (fun w : va_W => w) jFr_id rfl rfl (fun v w hvw => ?_)
      obtain ⟨rfl, rfl⟩ := hvw
      change J X 0 0 (wS t ad o h_count h_pitches h_wears h_slots h_borrowers h_dueDays h_contents r_count r_nextId r_ids r_borrowers r_pitches r_tolerances r_firstDays r_lastDays b_count b_hammers b_borrowers b_firstDays b_lastDays s_day s_coins s_bookingCoins s_lateCoins s_faceCosts s_broken s_lent) 26 [(4, .int x4), (3, .int x3), (2, .int x2), (0, .ref (ad o)), (1, .int x1)] [.int u3]
      refine j_istore hX [(5, .int u3), (4, .int x4), (3, .int x3), (2, .int x2), (0, .ref (ad o)), (1, .int x1)] dX8_bestFor_26 (by decide) rfl ?_
      refine j_aload_n hX dX8_bestFor_28 rfl 4 rfl ?_
      refine j_iload_n hX dX8_bestFor_29 rfl 5 rfl ?_
      refine j_iload hX dX8_bestFor_30 1 rfl ?_
      obtain ⟨u5, h6, hf⟩ := jbind hf
      refine j_callV (st := []) hX (k_X8_suits (l := l) (D := D) (t := t) (ad := ad) (o := o) h_count h_pitches h_wears h_slots h_borrowers h_dueDays h_contents r_count r_nextId r_ids r_borrowers r_pitches r_tolerances r_firstDays r_lastDays b_count b_hammers b_borrowers b_firstDays b_lastDays s_day s_coins s_bookingCoins s_lateCoins s_faceCosts s_broken s_lent x1 x4 u5 h6) q728 q258 q259 q2 q260 (n9 := 2) rfl ⟨by decide +kernel, by decide +kernel⟩ 0 rfl rfl rfl dX8_bestFor_32 (Nat.le_of_ble_eq_true rfl) ⟨Nat.le_refl _, Nat.le_refl _⟩ (fun w : va_W => w) jFr_id rfl rfl (fun v w hvw => ?_)
      obtain ⟨rfl, rfl⟩ := hvw
      change J X 0 0 (wS t ad o h_count h_pitches h_wears h_slots h_borrowers h_dueDays h_contents r_count r_nextId r_ids r_borrowers r_pitches r_tolerances r_firstDays r_lastDays b_count b_hammers b_borrowers b_firstDays b_lastDays s_day s_coins s_bookingCoins s_lateCoins s_faceCosts s_broken s_lent) 35 [(5, .int u3), (4, .int x4), (3, .int x3), (2, .int x2), (0, .ref (ad o)), (1, .int x1)] [.int u5]
      refine j_if_eq hX 55 dX8_bestFor_35 (by decide) hf (fun c35 hf => ?_) (fun c35 hf => ?_)
      · refine j_iinc hX (x4 + 1) [(4, .int (x4 + 1)), (5, .int u3), (3, .int x3), (2, .int x2), (0, .ref (ad o)), (1, .int x1)] dX8_bestFor_55 1 rfl rfl (by decide) rfl ?_
        refine j_goto hX 7 dX8_bestFor_58 (by decide) ?_
        refine j_sub hX [(4, .int (x4 + 1)), (3, .int x3), (2, .int x2), (0, .ref (ad o)), (1, .int x1)] [0, 2, 3, 4, 5] rfl ?_
        exact ih (x4 + 1) x3 x2 u hf kx
      · refine j_iload_n hX dX8_bestFor_38 rfl 3 rfl ?_
        refine j_iconst hX (-1) dX8_bestFor_39 (by decide) ?_
        refine j_icmp_eq hX 49 dX8_bestFor_40 (by decide) hf (fun c40 hf => ?_) (fun c40 hf => ?_)
        · refine j_iload hX dX8_bestFor_49 1 rfl ?_
          refine j_istore_n hX [(2, .int x4), (5, .int u3), (4, .int x4), (3, .int x3), (0, .ref (ad o)), (1, .int x1)] dX8_bestFor_51 rfl (by decide) rfl ?_
          refine j_iload hX dX8_bestFor_52 1 rfl ?_
          refine j_istore_n hX [(3, .int u3), (2, .int x4), (5, .int u3), (4, .int x4), (0, .ref (ad o)), (1, .int x1)] dX8_bestFor_54 rfl (by decide) rfl ?_
          refine j_iinc hX (x4 + 1) [(4, .int (x4 + 1)), (3, .int u3), (2, .int x4), (5, .int u3), (0, .ref (ad o)), (1, .int x1)] dX8_bestFor_55 3 rfl rfl (by decide) rfl ?_
          refine j_goto hX 7 dX8_bestFor_58 (by decide) ?_
          refine j_sub hX [(4, .int (x4 + 1)), (3, .int u3), (2, .int x4), (0, .ref (ad o)), (1, .int x1)] [0, 1, 2, 4, 5] rfl ?_
          exact ih (x4 + 1) u3 x4 u hf kx
        · refine j_iload hX dX8_bestFor_43 0 rfl ?_
          refine j_iload_n hX dX8_bestFor_45 rfl 2 rfl ?_
          refine j_icmp_ge hX 55 dX8_bestFor_46 (by decide) hf (fun c46 hf => ?_) (fun c46 hf => ?_)
          · refine j_iinc hX (x4 + 1) [(4, .int (x4 + 1)), (5, .int u3), (3, .int x3), (2, .int x2), (0, .ref (ad o)), (1, .int x1)] dX8_bestFor_55 1 rfl rfl (by decide) rfl ?_
            refine j_goto hX 7 dX8_bestFor_58 (by decide) ?_
            refine j_sub hX [(4, .int (x4 + 1)), (3, .int x3), (2, .int x2), (0, .ref (ad o)), (1, .int x1)] [0, 2, 3, 4, 5] rfl ?_
            exact ih (x4 + 1) x3 x2 u hf kx
          · refine j_iload hX dX8_bestFor_49 1 rfl ?_
            refine j_istore_n hX [(2, .int x4), (5, .int u3), (4, .int x4), (3, .int x3), (0, .ref (ad o)), (1, .int x1)] dX8_bestFor_51 rfl (by decide) rfl ?_
            refine j_iload hX dX8_bestFor_52 1 rfl ?_
            refine j_istore_n hX [(3, .int u3), (2, .int x4), (5, .int u3), (4, .int x4), (0, .ref (ad o)), (1, .int x1)] dX8_bestFor_54 rfl (by decide) rfl ?_
            refine j_iinc hX (x4 + 1) [(4, .int (x4 + 1)), (3, .int u3), (2, .int x4), (5, .int u3), (0, .ref (ad o)), (1, .int x1)] dX8_bestFor_55 3 rfl rfl (by decide) rfl ?_
            refine j_goto hX 7 dX8_bestFor_58 (by decide) ?_
            refine j_sub hX [(4, .int (x4 + 1)), (3, .int u3), (2, .int x4), (0, .ref (ad o)), (1, .int x1)] [0, 1, 2, 4, 5] rfl ?_
            exact ih (x4 + 1) u3 x4 u hf kx
set_option maxHeartbeats 4000000 in
set_option maxRecDepth 100000 in
theorem k_X8_bestFor {l : Launch} {D : va_G} {t : Nat → ClassId} {ad : Nat → Nat} {o : Nat} (h_count : Int32) (h_pitches : Nat → Int32) (h_wears : Nat → Int32) (h_slots : Nat → Int32) (h_borrowers : Nat → Int32) (h_dueDays : Nat → Int32) (h_contents : Nat → Int32) (r_count : Int32) (r_nextId : Int32) (r_ids : Nat → Int32) (r_borrowers : Nat → Int32) (r_pitches : Nat → Int32) (r_tolerances : Nat → Int32) (r_firstDays : Nat → Int32) (r_lastDays : Nat → Int32) (b_count : Int32) (b_hammers : Nat → Int32) (b_borrowers : Nat → Int32) (b_firstDays : Nat → Int32) (b_lastDays : Nat → Int32) (s_day : Int32) (s_coins : Int32) (s_bookingCoins : Int32) (s_lateCoins : Int32) (s_faceCosts : Int32) (s_broken : Int32) (s_lent : Int32) (a0 : Int32) (u : Int32) (hf : f_X8_bestFor h_count h_pitches h_wears h_slots h_dueDays r_count r_pitches r_tolerances r_firstDays r_lastDays b_count b_hammers b_firstDays b_lastDays a0 = some u) : cm l D (jT t) yX8_bestFor cX8_bestFor 6 (some FieldType.int) { frames := 3, cells := 0, slots := 0, locals := 68 } [.ref (ad o), .int a0] (wS t ad o h_count h_pitches h_wears h_slots h_borrowers h_dueDays h_contents r_count r_nextId r_ids r_borrowers r_pitches r_tolerances r_firstDays r_lastDays b_count b_hammers b_borrowers b_firstDays b_lastDays s_day s_coins s_bookingCoins s_lateCoins s_faceCosts s_broken s_lent) (fun v w => v = (some (.int u)) ∧ w = wS t ad o h_count h_pitches h_wears h_slots h_borrowers h_dueDays h_contents r_count r_nextId r_ids r_borrowers r_pitches r_tolerances r_firstDays r_lastDays b_count b_hammers b_borrowers b_firstDays b_lastDays s_day s_coins s_bookingCoins s_lateCoins s_faceCosts s_broken s_lent) := by
  refine cm_of RX8 rfl (by decide +kernel) (Nat.le_of_ble_eq_true rfl) (fun X hX hE => ?_)
  change J X 0 0 (wS t ad o h_count h_pitches h_wears h_slots h_borrowers h_dueDays h_contents r_count r_nextId r_ids r_borrowers r_pitches r_tolerances r_firstDays r_lastDays b_count b_hammers b_borrowers b_firstDays b_lastDays s_day s_coins s_bookingCoins s_lateCoins s_faceCosts s_broken s_lent) 0 [(0, .ref (ad o)), (1, .int a0)] []
  unfold f_X8_bestFor at hf
  refine j_iconst hX (-1) dX8_bestFor_0 (by decide) ?_
  refine j_istore_n hX [(2, .int (-1)), (0, .ref (ad o)), (1, .int a0)] dX8_bestFor_1 rfl (by decide) rfl ?_
  refine j_iconst hX 0 dX8_bestFor_2 (by decide) ?_
  refine j_istore_n hX [(3, .int 0), (2, .int (-1)), (0, .ref (ad o)), (1, .int a0)] dX8_bestFor_3 rfl (by decide) rfl ?_
  refine j_iconst hX 0 dX8_bestFor_4 (by decide) ?_
  refine j_istore hX [(4, .int 0), (3, .int 0), (2, .int (-1)), (0, .ref (ad o)), (1, .int a0)] dX8_bestFor_5 (by decide) rfl ?_
  obtain ⟨s8, h9, hf⟩ := jbind hf
  refine k_X8_bestFor_L7 (ad := ad) h_count h_pitches h_wears h_slots h_dueDays r_count r_pitches r_tolerances r_firstDays r_lastDays b_count b_hammers b_firstDays b_lastDays a0 h_borrowers h_contents r_nextId r_ids r_borrowers b_borrowers s_day s_coins s_bookingCoins s_lateCoins s_faceCosts s_broken s_lent hX jFU 0 0 (-1) s8 h9 (fun s80 es8 => ?_)
  subst es8
  refine j_iload_n hX dX8_bestFor_61 rfl 2 rfl ?_
  cases hf
  exact j_iret hX hE dX8_bestFor_62 (Nat.le_refl _) (Nat.le_refl _) ⟨rfl, rfl⟩

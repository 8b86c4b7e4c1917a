-- HammerDepot$Matching load (LHammerDepot$State;)V
def f_X4_load_L31 (h_count : Int32) (h_pitches : Nat → Int32) (h_wears : Nat → Int32) (h_slots : Nat → Int32) (h_dueDays : Nat → Int32) (r_count : Int32) (r_pitches : Nat → Int32) (r_tolerances : Nat → Int32) (r_firstDays : Nat → Int32) (r_lastDays : Nat → Int32) (b_count : Int32) (b_hammers : Nat → Int32) (b_firstDays : Nat → Int32) (b_lastDays : Nat → Int32) (x2 : Int32) : Nat → Int32 → Int32 → Option (Int32 × Int32)
  | 0, _, _ => none
  | jn + 1, x4, x3 =>
    Option.bind (f_X2_size h_count) (fun u3 =>
      if u3 ≤ x4 then
        some (x4, x3)
      else
        Option.bind (f_X8_suits h_count h_pitches h_wears h_slots h_dueDays r_count r_pitches r_tolerances r_firstDays r_lastDays b_count b_hammers b_firstDays b_lastDays x2 x4) (fun u5 =>
          if u5 = 0 then
            f_X4_load_L31 h_count h_pitches h_wears h_slots h_dueDays r_count r_pitches r_tolerances r_firstDays r_lastDays b_count b_hammers b_firstDays b_lastDays x2 jn (x4 + 1) x3
          else
            f_X4_load_L31 h_count h_pitches h_wears h_slots h_dueDays r_count r_pitches r_tolerances r_firstDays r_lastDays b_count b_hammers b_firstDays b_lastDays x2 jn (x4 + 1) (x3 ||| ((1 : Int32) <<< (x4 &&& 31)))))
def f_X4_load_L18 (g_count : Int32) (h_count : Int32) (h_pitches : Nat → Int32) (h_wears : Nat → Int32) (h_slots : Nat → Int32) (h_dueDays : Nat → Int32) (r_count : Int32) (r_pitches : Nat → Int32) (r_tolerances : Nat → Int32) (r_firstDays : Nat → Int32) (r_lastDays : Nat → Int32) (b_count : Int32) (b_hammers : Nat → Int32) (b_firstDays : Nat → Int32) (b_lastDays : Nat → Int32) : Nat → Int32 → (Nat → Int32) → Option (Int32 × (Nat → Int32))
  | 0, _, _ => none
  | jn + 1, x2, g_fitting =>
    if g_count ≤ x2 then
      some (x2, g_fitting)
    else
      Option.bind (f_X4_load_L31 h_count h_pitches h_wears h_slots h_dueDays r_count r_pitches r_tolerances r_firstDays r_lastDays b_count b_hammers b_firstDays b_lastDays x2 jFU 0 0) (fun s8 =>
        if jin x2 8 = true then
          f_X4_load_L18 g_count h_count h_pitches h_wears h_slots h_dueDays r_count r_pitches r_tolerances r_firstDays r_lastDays b_count b_hammers b_firstDays b_lastDays jn (x2 + 1) (upd g_fitting (x2).toNatClampNeg s8.2)
        else none)
def f_X4_load (g_count : Int32) (g_fitting : Nat → Int32) (h_count : Int32) (h_pitches : Nat → Int32) (h_wears : Nat → Int32) (h_slots : Nat → Int32) (h_dueDays : Nat → Int32) (r_count : Int32) (r_pitches : Nat → Int32) (r_tolerances : Nat → Int32) (r_firstDays : Nat → Int32) (r_lastDays : Nat → Int32) (b_count : Int32) (b_hammers : Nat → Int32) (b_firstDays : Nat → Int32) (b_lastDays : Nat → Int32) : Option (Int32 × (Nat → Int32)) :=
  Option.bind (f_X5_size r_count) (fun u1 =>
    Option.bind (f_X4_load_L18 (jmin u1 (8 : Int32)) h_count h_pitches h_wears h_slots h_dueDays r_count r_pitches r_tolerances r_firstDays r_lastDays b_count b_hammers b_firstDays b_lastDays jFU 0 g_fitting) (fun s11 =>
      some (jmin u1 (8 : Int32), s11.2)))
set_option maxHeartbeats 4000000 in
set_option maxRecDepth 100000 in
theorem k_X4_load_L31 {l : Launch} {D : va_G} {t : Nat → ClassId} {ad : Nat → Nat} {o o2 : Nat} (h_count : Int32) (h_pitches : Nat → Int32) (h_wears : Nat → Int32) (h_slots : Nat → Int32) (h_dueDays : Nat → Int32) (r_count : Int32) (r_pitches : Nat → Int32) (r_tolerances : Nat → Int32) (r_firstDays : Nat → Int32) (r_lastDays : Nat → Int32) (b_count : Int32) (b_hammers : Nat → Int32) (b_firstDays : Nat → Int32) (b_lastDays : Nat → Int32) (x2 : Int32) (g_count : Int32) (g_fitting : Nat → Int32) (g_holders : Nat → Int32) (g_chosen : Nat → Int32) (g_untried : Int32) (h_borrowers : Nat → Int32) (h_contents : Nat → Int32) (r_nextId : Int32) (r_ids : Nat → Int32) (r_borrowers : Nat → Int32) (b_borrowers : Nat → Int32) (s_day : Int32) (s_coins : Int32) (s_bookingCoins : Int32) (s_lateCoins : Int32) (s_faceCosts : Int32) (s_broken : Int32) (s_lent : Int32) {X : jX} (hX : jOK X l D (jT t) cX4_load RX4 none { frames := 3, cells := 0, slots := 0, locals := 68 } 5) :
    ∀ (jn : Nat) (x4 : Int32) (x3 : Int32) (u : Int32 × Int32) (hf : f_X4_load_L31 h_count h_pitches h_wears h_slots h_dueDays r_count r_pitches r_tolerances r_firstDays r_lastDays b_count b_hammers b_firstDays b_lastDays x2 jn x4 x3 = some u) (kx : ∀ s : Int32 × Int32, u = s → J X 0 0 (wG t ad o g_count g_fitting g_holders g_chosen g_untried ++ (wS t ad o2 h_count h_pitches h_wears h_slots h_borrowers h_dueDays h_contents r_count r_nextId r_ids r_borrowers r_pitches r_tolerances r_firstDays r_lastDays b_count b_hammers b_borrowers b_firstDays b_lastDays s_day s_coins s_bookingCoins s_lateCoins s_faceCosts s_broken s_lent)) 66 [(4, .int s.1), (3, .int s.2), (2, .int x2), (0, .ref (ad o)), (1, .ref (ad o2))] []), J X 0 0 (wG t ad o g_count g_fitting g_holders g_chosen g_untried ++ (wS t ad o2 h_count h_pitches h_wears h_slots h_borrowers h_dueDays h_contents r_count r_nextId r_ids r_borrowers r_pitches r_tolerances r_firstDays r_lastDays b_count b_hammers b_borrowers b_firstDays b_lastDays s_day s_coins s_bookingCoins s_lateCoins s_faceCosts s_broken s_lent)) 31 [(4, .int x4), (3, .int x3), (2, .int x2), (0, .ref (ad o)), (1, .ref (ad o2))] [] := by
  intro jn
  induction jn with
  | zero => intro x4 x3 u hf; cases (show (none : Option (Int32 × Int32)) = some u from hf)
  | succ jn ih =>
    intro x4 x3 u hf kx
    unfold f_X4_load_L31 at hf
    refine j_iload hX dX4_load_31 0 rfl ?_
    refine j_aload_n hX dX4_load_33 rfl 4 rfl ?_
    refine j_getN hX dX4_load_34 inX8 0 q91 4 rfl rfl (by decide) rfl rfl ?_
    obtain ⟨u3, h4, hf⟩ := jbind hf
    refine j_callV (st := [.int x4]) hX (k_X2_size (l := l) (D := D) (t := t) (ad := ad) (o := o2 + 1) h_count h_pitches h_wears h_slots h_borrowers h_dueDays h_contents  u3 h4) q253 q254 q255 q3 q256 (n9 := 0) rfl ⟨by decide +kernel, by decide +kernel⟩ 0 rfl rfl rfl dX4_load_37 (Nat.le_of_ble_eq_true rfl) ⟨Nat.le_refl _, Nat.le_refl _⟩ (fun w : va_W => (fun w : va_W => (wG t ad o g_count g_fitting g_holders g_chosen g_untried) ++ w) ((frS_hammers t ad o2 r_count r_nextId r_ids r_borrowers r_pitches r_tolerances r_firstDays r_lastDays b_count b_hammers b_borrowers b_firstDays b_lastDays s_day s_coins s_bookingCoins s_lateCoins s_faceCosts s_broken s_lent) w)) (jFr_comp (f := (fun w : va_W => (wG t ad o g_count g_fitting g_holders g_chosen g_untried) ++ w)) (g := (frS_hammers t ad o2 r_count r_nextId r_ids r_borrowers r_pitches r_tolerances r_firstDays r_lastDays b_count b_hammers b_borrowers b_firstDays b_lastDays s_day s_coins s_bookingCoins s_lateCoins s_faceCosts s_broken s_lent)) (jFr_l (wG t ad o g_count g_fitting g_holders g_chosen g_untried)) (frS_hammers_ok t ad o2 r_count r_nextId r_ids r_borrowers r_pitches r_tolerances r_firstDays r_lastDays b_count b_hammers b_borrowers b_firstDays b_lastDays s_day s_coins s_bookingCoins s_lateCoins s_faceCosts s_broken s_lent)) rfl rfl (fun v w hvw => ?_)
    obtain ⟨rfl, rfl⟩ := hvw
    change J X 0 0 (wG t ad o g_count g_fitting g_holders g_chosen g_untried ++ (wS t ad o2 h_count h_pitches h_wears h_slots h_borrowers h_dueDays h_contents r_count r_nextId r_ids r_borrowers r_pitches r_tolerances r_firstDays r_lastDays b_count b_hammers b_borrowers b_firstDays b_lastDays s_day s_coins s_bookingCoins s_lateCoins s_faceCosts s_broken s_lent)) 40 [(4, .int x4), (3, .int x3), (2, .int x2), (0, .ref (ad o)), (1, .ref (ad o2))] [.int u3, .int x4]
    refine j_icmp_ge hX 66 dX4_load_40 (by decide) hf (fun c40 hf => ?_) (fun c40 hf => ?_)
    · cases hf
      exact kx _ rfl
    · refine j_aload_n hX dX4_load_43 rfl 4 rfl ?_
      refine j_iload_n hX dX4_load_44 rfl 2 rfl ?_
      refine j_iload hX dX4_load_45 0 rfl ?_
      obtain ⟨u5, h6, hf⟩ := jbind hf
      refine j_callV (st := []) hX (k_X8_suits (l := l) (D := D) (t := t) (ad := ad) (o := o2) h_count h_pitches h_wears h_slots h_borrowers h_dueDays h_contents r_count r_nextId r_ids r_borrowers r_pitches r_tolerances r_firstDays r_lastDays b_count b_hammers b_borrowers b_firstDays b_lastDays s_day s_coins s_bookingCoins s_lateCoins s_faceCosts s_broken s_lent x2 x4 u5 h6) q257 q258 q259 q2 q260 (n9 := 2) rfl ⟨by decide +kernel, by decide +kernel⟩ 0 rfl rfl rfl dX4_load_47 (Nat.le_of_ble_eq_true rfl) ⟨Nat.le_refl _, Nat.le_refl _⟩ (fun w : va_W => (wG t ad o g_count g_fitting g_holders g_chosen g_untried) ++ w) (jFr_l (wG t ad o g_count g_fitting g_holders g_chosen g_untried)) rfl rfl (fun v w hvw => ?_)
      obtain ⟨rfl, rfl⟩ := hvw
      change J X 0 0 (wG t ad o g_count g_fitting g_holders g_chosen g_untried ++ (wS t ad o2 h_count h_pitches h_wears h_slots h_borrowers h_dueDays h_contents r_count r_nextId r_ids r_borrowers r_pitches r_tolerances r_firstDays r_lastDays b_count b_hammers b_borrowers b_firstDays b_lastDays s_day s_coins s_bookingCoins s_lateCoins s_faceCosts s_broken s_lent)) 50 [(4, .int x4), (3, .int x3), (2, .int x2), (0, .ref (ad o)), (1, .ref (ad o2))] [.int u5]
      refine j_if_eq hX 60 dX4_load_50 (by decide) hf (fun c50 hf => ?_) (fun c50 hf => ?_)
      · refine j_iinc hX (x4 + 1) [(4, .int (x4 + 1)), (3, .int x3), (2, .int x2), (0, .ref (ad o)), (1, .ref (ad o2))] dX4_load_60 0 rfl rfl (by decide) rfl ?_
        refine j_goto hX 31 dX4_load_63 (by decide) ?_
        exact ih (x4 + 1) x3 u hf kx
      · refine j_iload_n hX dX4_load_53 rfl 1 rfl ?_
        refine j_iconst hX 1 dX4_load_54 (by decide) ?_
        refine j_iload hX dX4_load_55 0 rfl ?_
        refine j_ishl hX dX4_load_57 ?_
        refine j_ior hX dX4_load_58 ?_
        refine j_istore_n hX [(3, .int (x3 ||| ((1 : Int32) <<< (x4 &&& 31)))), (4, .int x4), (2, .int x2), (0, .ref (ad o)), (1, .ref (ad o2))] dX4_load_59 rfl (by decide) rfl ?_
        refine j_iinc hX (x4 + 1) [(4, .int (x4 + 1)), (3, .int (x3 ||| ((1 : Int32) <<< (x4 &&& 31)))), (2, .int x2), (0, .ref (ad o)), (1, .ref (ad o2))] dX4_load_60 1 rfl rfl (by decide) rfl ?_
        refine j_goto hX 31 dX4_load_63 (by decide) ?_
        exact ih (x4 + 1) (x3 ||| ((1 : Int32) <<< (x4 &&& 31))) u hf kx
set_option maxHeartbeats 4000000 in
set_option maxRecDepth 100000 in
theorem k_X4_load_L18 {l : Launch} {D : va_G} {t : Nat → ClassId} {ad : Nat → Nat} {o o2 : Nat} (g_count : Int32) (h_count : Int32) (h_pitches : Nat → Int32) (h_wears : Nat → Int32) (h_slots : Nat → Int32) (h_dueDays : Nat → Int32) (r_count : Int32) (r_pitches : Nat → Int32) (r_tolerances : Nat → Int32) (r_firstDays : Nat → Int32) (r_lastDays : Nat → Int32) (b_count : Int32) (b_hammers : Nat → Int32) (b_firstDays : Nat → Int32) (b_lastDays : Nat → Int32) (g_holders : Nat → Int32) (g_chosen : Nat → Int32) (g_untried : Int32) (h_borrowers : Nat → Int32) (h_contents : Nat → Int32) (r_nextId : Int32) (r_ids : Nat → Int32) (r_borrowers : Nat → Int32) (b_borrowers : Nat → Int32) (s_day : Int32) (s_coins : Int32) (s_bookingCoins : Int32) (s_lateCoins : Int32) (s_faceCosts : Int32) (s_broken : Int32) (s_lent : Int32) {X : jX} (hX : jOK X l D (jT t) cX4_load RX4 none { frames := 3, cells := 0, slots := 0, locals := 68 } 5) :
    ∀ (jn : Nat) (x2 : Int32) (g_fitting : Nat → Int32) (u : Int32 × (Nat → Int32)) (hf : f_X4_load_L18 g_count h_count h_pitches h_wears h_slots h_dueDays r_count r_pitches r_tolerances r_firstDays r_lastDays b_count b_hammers b_firstDays b_lastDays jn x2 g_fitting = some u) (kx : ∀ s : Int32 × (Nat → Int32), u = s → J X 0 0 (wG t ad o g_count s.2 g_holders g_chosen g_untried ++ (wS t ad o2 h_count h_pitches h_wears h_slots h_borrowers h_dueDays h_contents r_count r_nextId r_ids r_borrowers r_pitches r_tolerances r_firstDays r_lastDays b_count b_hammers b_borrowers b_firstDays b_lastDays s_day s_coins s_bookingCoins s_lateCoins s_faceCosts s_broken s_lent)) 79 [(2, .int s.1), (0, .ref (ad o)), (1, .ref (ad o2))] []), J X 0 0 (wG t ad o g_count g_fitting g_holders g_chosen g_untried ++ (wS t ad o2 h_count h_pitches h_wears h_slots h_borrowers h_dueDays h_contents r_count r_nextId r_ids r_borrowers r_pitches r_tolerances r_firstDays r_lastDays b_count b_hammers b_borrowers b_firstDays b_lastDays s_day s_coins s_bookingCoins s_lateCoins s_faceCosts s_broken s_lent)) 18 [(2, .int x2), (0, .ref (ad o)), (1, .ref (ad o2))] [] := by
  intro jn
  induction jn with
  | zero => intro x2 g_fitting u hf; cases (show (none : Option (Int32 × (Nat → Int32))) = some u from hf)
  | succ jn ih =>
    intro x2 g_fitting u hf kx
    unfold f_X4_load_L18 at hf
    refine j_iload_n hX dX4_load_18 rfl 0 rfl ?_
    refine j_aload_n hX dX4_load_19 rfl 1 rfl ?_
    refine j_get hX dX4_load_20 inX4 0 q129 0 rfl rfl (by decide) rfl rfl ?_
    refine j_icmp_ge hX 79 dX4_load_23 (by decide) hf (fun c23 hf => ?_) (fun c23 hf => ?_)
    · cases hf
      exact kx _ rfl
    · refine j_iconst hX 0 dX4_load_26 (by decide) ?_
      refine j_istore_n hX [(3, .int 0), (2, .int x2), (0, .ref (ad o)), (1, .ref (ad o2))] dX4_load_27 rfl (by decide) rfl ?_
      refine j_iconst hX 0 dX4_load_28 (by decide) ?_
      refine j_istore hX [(4, .int 0), (3, .int 0), (2, .int x2), (0, .ref (ad o)), (1, .ref (ad o2))] dX4_load_29 (by decide) rfl ?_
      obtain ⟨s8, h9, hf⟩ := jbind hf
      refine k_X4_load_L31 (ad := ad) h_count h_pitches h_wears h_slots h_dueDays r_count r_pitches r_tolerances r_firstDays r_lastDays b_count b_hammers b_firstDays b_lastDays x2 g_count g_fitting g_holders g_chosen g_untried h_borrowers h_contents r_nextId r_ids r_borrowers b_borrowers s_day s_coins s_bookingCoins s_lateCoins s_faceCosts s_broken s_lent hX jFU 0 0 s8 h9 (fun s80 es8 => ?_)
      subst es8
      refine j_aload_n hX dX4_load_66 rfl 3 rfl ?_
      refine j_get hX dX4_load_67 inX4 1 q130 0 rfl rfl (by decide) rfl rfl ?_
      refine j_iload_n hX dX4_load_70 rfl 2 rfl ?_
      refine j_iload_n hX dX4_load_71 rfl 1 rfl ?_
      refine j_iast hX (wG t ad o g_count (upd g_fitting (x2).toNatClampNeg s8.2) g_holders g_chosen g_untried ++ (wS t ad o2 h_count h_pitches h_wears h_slots h_borrowers h_dueDays h_contents r_count r_nextId r_ids r_borrowers r_pitches r_tolerances r_firstDays r_lastDays b_count b_hammers b_borrowers b_firstDays b_lastDays s_day s_coins s_bookingCoins s_lateCoins s_faceCosts s_broken s_lent)) dX4_load_72 1 0 rfl rfl rfl hf (fun c72 hf => ?_)
      refine j_iinc hX (x2 + 1) [(2, .int (x2 + 1)), (4, .int s8.1), (3, .int s8.2), (0, .ref (ad o)), (1, .ref (ad o2))] dX4_load_73 2 rfl rfl (by decide) rfl ?_
      refine j_goto hX 18 dX4_load_76 (by decide) ?_
      refine j_sub hX [(2, .int (x2 + 1)), (0, .ref (ad o)), (1, .ref (ad o2))] [0, 3, 4] rfl ?_
      exact ih (x2 + 1) (upd g_fitting (x2).toNatClampNeg s8.2) u hf kx
set_option maxHeartbeats 4000000 in
set_option maxRecDepth 100000 in
theorem k_X4_load {l : Launch} {D : va_G} {t : Nat → ClassId} {ad : Nat → Nat} {o o2 : Nat} (g_count : Int32) (g_fitting : Nat → Int32) (g_holders : Nat → Int32) (g_chosen : Nat → Int32) (g_untried : Int32) (h_count : Int32) (h_pitches : Nat → Int32) (h_wears : Nat → Int32) (h_slots : Nat → Int32) (h_borrowers : Nat → Int32) (h_dueDays : Nat → Int32) (h_contents : Nat → Int32) (r_count : Int32) (r_nextId : Int32) (r_ids : Nat → Int32) (r_borrowers : Nat → Int32) (r_pitches : Nat → Int32) (r_tolerances : Nat → Int32) (r_firstDays : Nat → Int32) (r_lastDays : Nat → Int32) (b_count : Int32) (b_hammers : Nat → Int32) (b_borrowers : Nat → Int32) (b_firstDays : Nat → Int32) (b_lastDays : Nat → Int32) (s_day : Int32) (s_coins : Int32) (s_bookingCoins : Int32) (s_lateCoins : Int32) (s_faceCosts : Int32) (s_broken : Int32) (s_lent : Int32)  (u : Int32 × (Nat → Int32)) (hf : f_X4_load g_count g_fitting h_count h_pitches h_wears h_slots h_dueDays r_count r_pitches r_tolerances r_firstDays r_lastDays b_count b_hammers b_firstDays b_lastDays = some u) : cm l D (jT t) yX4_load cX4_load 5 none { frames := 3, cells := 0, slots := 0, locals := 68 } [.ref (ad o), .ref (ad o2)] (wG t ad o g_count g_fitting g_holders g_chosen g_untried ++ (wS t ad o2 h_count h_pitches h_wears h_slots h_borrowers h_dueDays h_contents r_count r_nextId r_ids r_borrowers r_pitches r_tolerances r_firstDays r_lastDays b_count b_hammers b_borrowers b_firstDays b_lastDays s_day s_coins s_bookingCoins s_lateCoins s_faceCosts s_broken s_lent)) (fun v w => v = none ∧ w = wG t ad o u.1 u.2 g_holders g_chosen g_untried ++ (wS t ad o2 h_count h_pitches h_wears h_slots h_borrowers h_dueDays h_contents r_count r_nextId r_ids r_borrowers r_pitches r_tolerances r_firstDays r_lastDays b_count b_hammers b_borrowers b_firstDays b_lastDays s_day s_coins s_bookingCoins s_lateCoins s_faceCosts s_broken s_lent)) := by
  refine cm_of RX4 rfl (by decide +kernel) (Nat.le_of_ble_eq_true rfl) (fun X hX hE => ?_)
  change J X 0 0 (wG t ad o g_count g_fitting g_holders g_chosen g_untried ++ (wS t ad o2 h_count h_pitches h_wears h_slots h_borrowers h_dueDays h_contents r_count r_nextId r_ids r_borrowers r_pitches r_tolerances r_firstDays r_lastDays b_count b_hammers b_borrowers b_firstDays b_lastDays s_day s_coins s_bookingCoins s_lateCoins s_faceCosts s_broken s_lent)) 0 [(0, .ref (ad o)), (1, .ref (ad o2))] []
  unfold f_X4_load at hf
  refine j_aload_n hX dX4_load_0 rfl 0 rfl ?_
  refine j_aload_n hX dX4_load_1 rfl 1 rfl ?_
  refine j_getN hX dX4_load_2 inX8 1 q94 4 rfl rfl (by decide) rfl rfl ?_
  obtain ⟨u1, h2, hf⟩ := jbind hf
  refine j_callV (st := [.ref (ad o)]) hX (k_X5_size (l := l) (D := D) (t := t) (ad := ad) (o := o2 + 8) r_count r_nextId r_ids r_borrowers r_pitches r_tolerances r_firstDays r_lastDays  u1 h2) q251 q232 q233 q5 q234 (n9 := 0) rfl ⟨by decide +kernel, by decide +kernel⟩ 0 rfl rfl rfl dX4_load_5 (Nat.le_of_ble_eq_true rfl) ⟨Nat.le_refl _, Nat.le_refl _⟩ (fun w : va_W => (fun w : va_W => (wG t ad o g_count g_fitting g_holders g_chosen g_untried) ++ w) ((frS_requests t ad o2 h_count h_pitches h_wears h_slots h_borrowers h_dueDays h_contents b_count b_hammers b_borrowers b_firstDays b_lastDays s_day s_coins s_bookingCoins s_lateCoins s_faceCosts s_broken s_lent) w)) (jFr_comp (f := (fun w : va_W => (wG t ad o g_count g_fitting g_holders g_chosen g_untried) ++ w)) (g := (frS_requests t ad o2 h_count h_pitches h_wears h_slots h_borrowers h_dueDays h_contents b_count b_hammers b_borrowers b_firstDays b_lastDays s_day s_coins s_bookingCoins s_lateCoins s_faceCosts s_broken s_lent)) (jFr_l (wG t ad o g_count g_fitting g_holders g_chosen g_untried)) (frS_requests_ok t ad o2 h_count h_pitches h_wears h_slots h_borrowers h_dueDays h_contents b_count b_hammers b_borrowers b_firstDays b_lastDays s_day s_coins s_bookingCoins s_lateCoins s_faceCosts s_broken s_lent)) rfl rfl (fun v w hvw => ?_)
  obtain ⟨rfl, rfl⟩ := hvw
  change J X 0 0 (wG t ad o g_count g_fitting g_holders g_chosen g_untried ++ (wS t ad o2 h_count h_pitches h_wears h_slots h_borrowers h_dueDays h_contents r_count r_nextId r_ids r_borrowers r_pitches r_tolerances r_firstDays r_lastDays b_count b_hammers b_borrowers b_firstDays b_lastDays s_day s_coins s_bookingCoins s_lateCoins s_faceCosts s_broken s_lent)) 8 [(0, .ref (ad o)), (1, .ref (ad o2))] [.int u1, .ref (ad o)]
  refine j_bipush hX 8 dX4_load_8 (by decide) ?_
  refine j_mmin hX q252 dX4_load_10 (Nat.le_of_ble_eq_true rfl) (by decide) ⟨Nat.le_refl _, Nat.le_refl _⟩ ?_
  refine j_put hX (wG t ad o (jmin u1 (8 : Int32)) g_fitting g_holders g_chosen g_untried ++ (wS t ad o2 h_count h_pitches h_wears h_slots h_borrowers h_dueDays h_contents r_count r_nextId r_ids r_borrowers r_pitches r_tolerances r_firstDays r_lastDays b_count b_hammers b_borrowers b_firstDays b_lastDays s_day s_coins s_bookingCoins s_lateCoins s_faceCosts s_broken s_lent)) tyX4 dX4_load_13 inX4 tyX4_ok nmX4 0 q129 0 rfl rfl (by decide) rfl rfl rfl rfl rfl (Nat.le_of_ble_eq_true rfl) rfl ?_
  refine j_iconst hX 0 dX4_load_16 (by decide) ?_
  refine j_istore_n hX [(2, .int 0), (0, .ref (ad o)), (1, .ref (ad o2))] dX4_load_17 rfl (by decide) rfl ?_
  obtain ⟨s11, h12, hf⟩ := jbind hf
  refine k_X4_load_L18 (ad := ad) (jmin u1 (8 : Int32)) h_count h_pitches h_wears h_slots h_dueDays r_count r_pitches r_tolerances r_firstDays r_lastDays b_count b_hammers b_firstDays b_lastDays g_holders g_chosen g_untried h_borrowers h_contents r_nextId r_ids r_borrowers b_borrowers s_day s_coins s_bookingCoins s_lateCoins s_faceCosts s_broken s_lent hX jFU 0 g_fitting s11 h12 (fun s110 es11 => ?_)
  subst es11
  cases hf
  exact j_vret hX hE dX4_load_79 (Nat.le_refl _) (Nat.le_refl _) ⟨rfl, rfl⟩
-- HammerDepot$Matching augment (LHammerDepot$Matching;II)Z
def f_X4_augment_L20 (rec : (Nat → Int32) → (Nat → Int32) → Int32 → Int32 → Int32 → Option (Int32 × (Nat → Int32) × Int32)) (g_fitting : Nat → Int32) (x1 : Int32) (x2 : Int32) : Nat → Int32 → (Nat → Int32) → Int32 → Option ((Int32 × (Nat → Int32) × Int32) ⊕ (Int32 × (Nat → Int32) × Int32))
  | 0, _, _, _ => none
  | jn + 1, x3, g_holders, g_untried =>
    if 12 ≤ x3 then
      some (.inr (x3, g_holders, g_untried))
    else
      if jin x1 8 = true then
        if (((g_fitting (x1).toNatClampNeg) &&& g_untried) &&& ((1 : Int32) <<< (x3 &&& 31))) = 0 then
          f_X4_augment_L20 rec g_fitting x1 x2 jn (x3 + 1) g_holders g_untried
        else
          if jin x3 12 = true then
            if (g_holders (x3).toNatClampNeg) = (-1) then
              if jin x3 12 = true then
                some (.inl (1, upd g_holders (x3).toNatClampNeg x1, g_untried &&& (((1 : Int32) <<< (x3 &&& 31)) ^^^ (-1))))
              else none
            else
              Option.bind (rec g_fitting g_holders (g_untried &&& (((1 : Int32) <<< (x3 &&& 31)) ^^^ (-1))) (g_holders (x3).toNatClampNeg) (x2 + 1)) (fun u1 =>
                if u1.1 = 0 then
                  f_X4_augment_L20 rec g_fitting x1 x2 jn (x3 + 1) u1.2.1 u1.2.2
                else
                  if jin x3 12 = true then
                    some (.inl (1, upd u1.2.1 (x3).toNatClampNeg x1, u1.2.2))
                  else none)
          else none
      else none
def f_X4_augment : Nat → (Nat → Int32) → (Nat → Int32) → Int32 → Int32 → Int32 → Option (Int32 × (Nat → Int32) × Int32)
  | 0, _, _, _, _, _ => none
  | jd + 1, g_fitting, g_holders, g_untried, a1, a2 =>
    if 8 < a2 then
      some (0, g_holders, g_untried)
    else
      if a1 < 0 then
        some (0, g_holders, g_untried)
      else
        if a1 < 8 then
          Option.bind (f_X4_augment_L20 (f_X4_augment jd) g_fitting a1 a2 jFU 0 g_holders g_untried) (fun o3 => Sum.elim (fun r => some r) (fun s4 =>
            some (0, s4.2.1, s4.2.2)) o3)
        else
          some (0, g_holders, g_untried)
set_option maxHeartbeats 4000000 in
set_option maxRecDepth 100000 in
theorem k_X4_augment_L20 {l : Launch} {D : va_G} {t : Nat → ClassId} {ad : Nat → Nat} {o : Nat} {jd : Nat} (rec : (Nat → Int32) → (Nat → Int32) → Int32 → Int32 → Int32 → Option (Int32 × (Nat → Int32) × Int32)) (hrec : ∀ (g_count : Int32) (g_fitting : Nat → Int32) (g_holders : Nat → Int32) (g_chosen : Nat → Int32) (g_untried : Int32) (a1 : Int32) (a2 : Int32) (u : Int32 × (Nat → Int32) × Int32) (hf : rec g_fitting g_holders g_untried a1 a2 = some u), cm l D (jT t) yX4_augment cX4_augment 6 (some FieldType.boolean) { frames := 0 + jd, cells := 0, slots := 0, locals := 0 + 25 * jd } [.ref (ad o), .int a1, .int a2] (wG t ad o g_count g_fitting g_holders g_chosen g_untried) (fun v w => v = (some (.int u.1)) ∧ w = wG t ad o g_count g_fitting u.2.1 g_chosen u.2.2)) (g_fitting : Nat → Int32) (x1 : Int32) (x2 : Int32) (g_count : Int32) (g_chosen : Nat → Int32) {X : jX} (hX : jOK X l D (jT t) cX4_augment RX4 (some FieldType.boolean) { frames := 0 + (jd + 1), cells := 0, slots := 0, locals := 0 + 25 * (jd + 1) } 6) {PP : Option Value → va_W → Prop} (hE : jEnd X PP 0 0) :
    ∀ (jn : Nat) (x3 : Int32) (g_holders : Nat → Int32) (g_untried : Int32) (u : (Int32 × (Nat → Int32) × Int32) ⊕ (Int32 × (Nat → Int32) × Int32)) (hf : f_X4_augment_L20 rec g_fitting x1 x2 jn x3 g_holders g_untried = some u) (kx : ∀ s : Int32 × (Nat → Int32) × Int32, u = .inr s → J X 0 0 (wG t ad o g_count g_fitting s.2.1 g_chosen s.2.2) 102 [(3, .int s.1), (0, .ref (ad o)), (1, .int x1), (2, .int x2)] []) (kr : ∀ r : Int32 × (Nat → Int32) × Int32, u = .inl r → PP (some (.int r.1)) (wG t ad o g_count g_fitting r.2.1 g_chosen r.2.2)), J X 0 0 (wG t ad o g_count g_fitting g_holders g_chosen g_untried) 20 [(3, .int x3), (0, .ref (ad o)), (1, .int x1), (2, .int x2)] [] := by
  intro jn
  induction jn with
  | zero => intro x3 g_holders g_untried u hf; cases (show (none : Option ((Int32 × (Nat → Int32) × Int32) ⊕ (Int32 × (Nat → Int32) × Int32))) = some u from hf)
  | succ jn ih =>
    intro x3 g_holders g_untried u hf kx kr
    unfold f_X4_augment_L20 at hf
    refine j_iload_n hX dX4_augment_20 rfl 0 rfl ?_
    refine j_bipush hX 12 dX4_augment_21 (by decide) ?_
    refine j_icmp_ge hX 102 dX4_augment_23 (by decide) hf (fun c23 hf => ?_) (fun c23 hf => ?_)
    · cases hf
      exact kx _ rfl
    · refine j_iconst hX 1 dX4_augment_26 (by decide) ?_
      refine j_iload_n hX dX4_augment_27 rfl 0 rfl ?_
      refine j_ishl hX dX4_augment_28 ?_
      refine j_istore hX [(4, .int ((1 : Int32) <<< (x3 &&& 31))), (3, .int x3), (0, .ref (ad o)), (1, .int x1), (2, .int x2)] dX4_augment_29 (by decide) rfl ?_
      refine j_aload_n hX dX4_augment_31 rfl 2 rfl ?_
      refine j_get hX dX4_augment_32 inX4 1 q130 0 rfl rfl (by decide) rfl rfl ?_
      refine j_iload_n hX dX4_augment_35 rfl 3 rfl ?_
      refine j_iald hX dX4_augment_36 1 0 rfl rfl hf (fun c36 hf => ?_)
      refine j_aload_n hX dX4_augment_37 rfl 2 rfl ?_
      refine j_get hX dX4_augment_38 inX4 4 q133 0 rfl rfl (by decide) rfl rfl ?_
      refine j_iand hX dX4_augment_41 ?_
      refine j_iload hX dX4_augment_42 0 rfl ?_
      refine j_iand hX dX4_augment_44 ?_
      refine j_if_eq hX 96 dX4_augment_45 (by decide) hf (fun c45 hf => ?_) (fun c45 hf => ?_)
      · refine j_iinc hX (x3 + 1) [(3, .int (x3 + 1)), (4, .int ((1 : Int32) <<< (x3 &&& 31))), (0, .ref (ad o)), (1, .int x1), (2, .int x2)] dX4_augment_96 1 rfl rfl (by decide) rfl ?_
        refine j_goto hX 20 dX4_augment_99 (by decide) ?_
        refine j_sub hX [(3, .int (x3 + 1)), (0, .ref (ad o)), (1, .int x1), (2, .int x2)] [0, 2, 3, 4] rfl ?_
        exact ih (x3 + 1) g_holders g_untried u hf kx kr
      · refine j_aload_n hX dX4_augment_48 rfl 2 rfl ?_
        refine j_dup hX dX4_augment_49 rfl ?_
        refine j_get hX dX4_augment_50 inX4 4 q133 0 rfl rfl (by decide) rfl rfl ?_
        refine j_iload hX dX4_augment_53 0 rfl ?_
        refine j_iconst hX (-1) dX4_augment_55 (by decide) ?_
        refine j_ixor hX dX4_augment_56 ?_
        refine j_iand hX dX4_augment_57 ?_
        refine j_put hX (wG t ad o g_count g_fitting g_holders g_chosen (g_untried &&& (((1 : Int32) <<< (x3 &&& 31)) ^^^ (-1)))) tyX4 dX4_augment_58 inX4 tyX4_ok nmX4 4 q133 0 rfl rfl (by decide) rfl rfl rfl rfl rfl (Nat.le_of_ble_eq_true rfl) rfl ?_
        refine j_aload_n hX dX4_augment_61 rfl 2 rfl ?_
        refine j_get hX dX4_augment_62 inX4 2 q131 0 rfl rfl (by decide) rfl rfl ?_
        refine j_iload_n hX dX4_augment_65 rfl 1 rfl ?_
        refine j_iald hX dX4_augment_66 2 0 rfl rfl hf (fun c66 hf => ?_)
        refine j_istore hX [(5, .int (g_holders (x3).toNatClampNeg)), (4, .int ((1 : Int32) <<< (x3 &&& 31))), (3, .int x3), (0, .ref (ad o)), (1, .int x1), (2, .int x2)] dX4_augment_67 (by decide) rfl ?_
        refine j_iload hX dX4_augment_69 0 rfl ?_
        refine j_iconst hX (-1) dX4_augment_71 (by decide) ?_
        refine j_icmp_eq hX 87 dX4_augment_72 (by decide) hf (fun c72 hf => ?_) (fun c72 hf => ?_)
        · refine j_aload_n hX dX4_augment_87 rfl 3 rfl ?_
          refine j_get hX dX4_augment_88 inX4 2 q131 0 rfl rfl (by decide) rfl rfl ?_
          refine j_iload_n hX dX4_augment_91 rfl 2 rfl ?_
          refine j_iload_n hX dX4_augment_92 rfl 4 rfl ?_
          refine j_iast hX (wG t ad o g_count g_fitting (upd g_holders (x3).toNatClampNeg x1) g_chosen (g_untried &&& (((1 : Int32) <<< (x3 &&& 31)) ^^^ (-1)))) dX4_augment_93 2 0 rfl rfl rfl hf (fun c93 hf => ?_)
          refine j_iconst hX 1 dX4_augment_94 (by decide) ?_
          cases hf
          exact j_zret hX hE rfl dX4_augment_95 (Nat.le_refl _) (Nat.le_refl _) (kr _ rfl)
        · refine j_aload_n hX dX4_augment_75 rfl 3 rfl ?_
          refine j_iload hX dX4_augment_76 0 rfl ?_
          refine j_iload_n hX dX4_augment_78 rfl 5 rfl ?_
          refine j_iconst hX 1 dX4_augment_79 (by decide) ?_
          refine j_iadd hX dX4_augment_80 ?_
          obtain ⟨u1, h2, hf⟩ := jbind hf
          refine j_callS (st := []) hX (hrec g_count g_fitting g_holders g_chosen (g_untried &&& (((1 : Int32) <<< (x3 &&& 31)) ^^^ (-1))) (g_holders (x3).toNatClampNeg) (x2 + 1) u1 h2) q317 q318 q8 q319 (n9 := 3) rfl ⟨by decide +kernel, ⟨by show 0 + jd + 1 ≤ 0 + (jd + 1); omega, by show 8 + (6 + 11) + (0 + 25 * jd) ≤ 0 + 25 * (jd + 1); omega⟩⟩ dX4_augment_81 (Nat.le_of_ble_eq_true rfl) ⟨Nat.le_refl _, Nat.le_refl _⟩ (fun w : va_W => w) jFr_id rfl rfl (fun v w hvw => ?_)
          obtain ⟨rfl, rfl⟩ := hvw
          change J X 0 0 (wG t ad o g_count g_fitting u1.2.1 g_chosen u1.2.2) 84 [(5, .int (g_holders (x3).toNatClampNeg)), (4, .int ((1 : Int32) <<< (x3 &&& 31))), (3, .int x3), (0, .ref (ad o)), (1, .int x1), (2, .int x2)] [.int u1.1]
          refine j_if_eq hX 96 dX4_augment_84 (by decide) hf (fun c84 hf => ?_) (fun c84 hf => ?_)
          · refine j_iinc hX (x3 + 1) [(3, .int (x3 + 1)), (5, .int (g_holders (x3).toNatClampNeg)), (4, .int ((1 : Int32) <<< (x3 &&& 31))), (0, .ref (ad o)), (1, .int x1), (2, .int x2)] dX4_augment_96 2 rfl rfl (by decide) rfl ?_
            refine j_goto hX 20 dX4_augment_99 (by decide) ?_
            refine j_sub hX [(3, .int (x3 + 1)), (0, .ref (ad o)), (1, .int x1), (2, .int x2)] [0, 3, 4, 5] rfl ?_
            exact ih (x3 + 1) u1.2.1 u1.2.2 u hf kx kr
          · refine j_aload_n hX dX4_augment_87 rfl 3 rfl ?_
            refine j_get hX dX4_augment_88 inX4 2 q131 0 rfl rfl (by decide) rfl rfl ?_
            refine j_iload_n hX dX4_augment_91 rfl 2 rfl ?_
            refine j_iload_n hX dX4_augment_92 rfl 4 rfl ?_
            refine j_iast hX (wG t ad o g_count g_fitting (upd u1.2.1 (x3).toNatClampNeg x1) g_chosen u1.2.2) dX4_augment_93 2 0 rfl rfl rfl hf (fun c93 hf => ?_)
            refine j_iconst hX 1 dX4_augment_94 (by decide) ?_
            cases hf
            exact j_zret hX hE rfl dX4_augment_95 (Nat.le_refl _) (Nat.le_refl _) (kr _ rfl)
set_option maxHeartbeats 4000000 in
set_option maxRecDepth 100000 in
theorem k_X4_augment {l : Launch} {D : va_G} {t : Nat → ClassId} {ad : Nat → Nat} {o : Nat} : ∀ (jd : Nat) (g_count : Int32) (g_fitting : Nat → Int32) (g_holders : Nat → Int32) (g_chosen : Nat → Int32) (g_untried : Int32) (a1 : Int32) (a2 : Int32) (u : Int32 × (Nat → Int32) × Int32) (hf : f_X4_augment jd g_fitting g_holders g_untried a1 a2 = some u), cm l D (jT t) yX4_augment cX4_augment 6 (some FieldType.boolean) { frames := 0 + jd, cells := 0, slots := 0, locals := 0 + 25 * jd } [.ref (ad o), .int a1, .int a2] (wG t ad o g_count g_fitting g_holders g_chosen g_untried) (fun v w => v = (some (.int u.1)) ∧ w = wG t ad o g_count g_fitting u.2.1 g_chosen u.2.2) := by
  intro jd
  induction jd with
  | zero => intro g_count g_fitting g_holders g_chosen g_untried a1 a2 u hf; cases (show (none : Option (Int32 × (Nat → Int32) × Int32)) = some u from hf)
  | succ jd hrec =>
    intro g_count g_fitting g_holders g_chosen g_untried a1 a2 u hf
    refine cm_of RX4 rfl (by decide +kernel) (Nat.le_of_ble_eq_true rfl) (fun X hX hE => ?_)
    change J X 0 0 (wG t ad o g_count g_fitting g_holders g_chosen g_untried) 0 [(0, .ref (ad o)), (1, .int a1), (2, .int a2)] []
    unfold f_X4_augment at hf
    refine j_iload_n hX dX4_augment_0 rfl 2 rfl ?_
    refine j_bipush hX 8 dX4_augment_1 (by decide) ?_
    refine j_icmp_gt hX 16 dX4_augment_3 (by decide) hf (fun c3 hf => ?_) (fun c3 hf => ?_)
    · refine j_iconst hX 0 dX4_augment_16 (by decide) ?_
      cases hf
      exact j_zret hX hE rfl dX4_augment_17 (Nat.le_refl _) (Nat.le_refl _) ⟨rfl, rfl⟩
    · refine j_iload_n hX dX4_augment_6 rfl 1 rfl ?_
      refine j_if_lt hX 16 dX4_augment_7 (by decide) hf (fun c7 hf => ?_) (fun c7 hf => ?_)
      · refine j_iconst hX 0 dX4_augment_16 (by decide) ?_
        cases hf
        exact j_zret hX hE rfl dX4_augment_17 (Nat.le_refl _) (Nat.le_refl _) ⟨rfl, rfl⟩
      · refine j_iload_n hX dX4_augment_10 rfl 1 rfl ?_
        refine j_bipush hX 8 dX4_augment_11 (by decide) ?_
        refine j_icmp_lt hX 18 dX4_augment_13 (by decide) hf (fun c13 hf => ?_) (fun c13 hf => ?_)
        · refine j_iconst hX 0 dX4_augment_18 (by decide) ?_
          refine j_istore_n hX [(3, .int 0), (0, .ref (ad o)), (1, .int a1), (2, .int a2)] dX4_augment_19 rfl (by decide) rfl ?_
          obtain ⟨o3, h5, hf⟩ := jbind hf
          refine k_X4_augment_L20 (ad := ad) (f_X4_augment jd) hrec g_fitting a1 a2 g_count g_chosen hX hE jFU 0 g_holders g_untried o3 h5 (fun s4 es4 => ?_) (fun r er => ?_)
          · subst es4
            have hf := jsum_r hf
            refine j_iconst hX 0 dX4_augment_102 (by decide) ?_
            cases hf
            exact j_zret hX hE rfl dX4_augment_103 (Nat.le_refl _) (Nat.le_refl _) ⟨rfl, rfl⟩
          · subst er
            cases hf
            exact ⟨rfl, rfl⟩
        · refine j_iconst hX 0 dX4_augment_16 (by decide) ?_
          cases hf
          exact j_zret hX hE rfl dX4_augment_17 (Nat.le_refl _) (Nat.le_refl _) ⟨rfl, rfl⟩
-- HammerDepot$Matching greatestFrom (II)I
def f_X4_greatestFrom_L13 (g_count : Int32) (g_fitting : Nat → Int32) (x2 : Int32) : Nat → Int32 → Int32 → (Nat → Int32) → Int32 → Option (Int32 × Int32 × (Nat → Int32) × Int32)
  | 0, _, _, _, _ => none
  | jn + 1, x4, x3, g_holders, g_untried =>
    if g_count ≤ x4 then
      some (x4, x3, g_holders, g_untried)
    else
      Option.bind (f_X4_augment 16 g_fitting g_holders x2 x4 0) (fun u3 =>
        if u3.1 = 0 then
          f_X4_greatestFrom_L13 g_count g_fitting x2 jn (x4 + 1) x3 u3.2.1 u3.2.2
        else
          f_X4_greatestFrom_L13 g_count g_fitting x2 jn (x4 + 1) (x3 + 1) u3.2.1 u3.2.2)
def f_X4_greatestFrom (g_count : Int32) (g_fitting : Nat → Int32) (g_holders : Nat → Int32) (g_untried : Int32) (a0 : Int32) (a1 : Int32) : Option (Int32 × (Nat → Int32) × Int32) :=
  Option.bind (f_J7_fill_53178 12 g_holders (-1)) (fun u1 =>
    Option.bind (f_X4_greatestFrom_L13 g_count g_fitting a1 jFU a0 0 u1 g_untried) (fun s6 =>
      some (s6.2.1, s6.2.2.1, s6.2.2.2)))
set_option maxHeartbeats 4000000 in
set_option maxRecDepth 100000 in
theorem k_X4_greatestFrom_L13 {l : Launch} {D : va_G} {t : Nat → ClassId} {ad : Nat → Nat} {o : Nat} (g_count : Int32) (g_fitting : Nat → Int32) (x2 : Int32) (g_chosen : Nat → Int32) (x1 : Int32) {X : jX} (hX : jOK X l D (jT t) cX4_greatestFrom RX4 (some FieldType.int) { frames := 17, cells := 0, slots := 0, locals := 425 } 5) :
    ∀ (jn : Nat) (x4 : Int32) (x3 : Int32) (g_holders : Nat → Int32) (g_untried : Int32) (u : Int32 × Int32 × (Nat → Int32) × Int32) (hf : f_X4_greatestFrom_L13 g_count g_fitting x2 jn x4 x3 g_holders g_untried = some u) (kx : ∀ s : Int32 × Int32 × (Nat → Int32) × Int32, u = s → J X 0 0 (wG t ad o g_count g_fitting s.2.2.1 g_chosen s.2.2.2) 46 [(4, .int s.1), (3, .int s.2.1), (0, .ref (ad o)), (1, .int x1), (2, .int x2)] []), J X 0 0 (wG t ad o g_count g_fitting g_holders g_chosen g_untried) 13 [(4, .int x4), (3, .int x3), (0, .ref (ad o)), (1, .int x1), (2, .int x2)] [] := by
  intro jn
  induction jn with
  | zero => intro x4 x3 g_holders g_untried u hf; cases (show (none : Option (Int32 × Int32 × (Nat → Int32) × Int32)) = some u from hf)
  | succ jn ih =>
    intro x4 x3 g_holders g_untried u hf kx
    unfold f_X4_greatestFrom_L13 at hf
    refine j_iload hX dX4_greatestFrom_13 0 rfl ?_
    refine j_aload_n hX dX4_greatestFrom_15 rfl 2 rfl ?_
    refine j_get hX dX4_greatestFrom_16 inX4 0 q129 0 rfl rfl (by decide) rfl rfl ?_
    refine j_icmp_ge hX 46 dX4_greatestFrom_19 (by decide) hf (fun c19 hf => ?_) (fun c19 hf => ?_)
    · cases hf
      exact kx _ rfl
    · refine j_aload_n hX dX4_greatestFrom_22 rfl 2 rfl ?_
      refine j_iload_n hX dX4_greatestFrom_23 rfl 4 rfl ?_
      refine j_put hX (wG t ad o g_count g_fitting g_holders g_chosen x2) tyX4 dX4_greatestFrom_24 inX4 tyX4_ok nmX4 4 q133 0 rfl rfl (by decide) rfl rfl rfl rfl rfl (Nat.le_of_ble_eq_true rfl) rfl ?_
      refine j_aload_n hX dX4_greatestFrom_27 rfl 2 rfl ?_
      refine j_iload hX dX4_greatestFrom_28 0 rfl ?_
      refine j_iconst hX 0 dX4_greatestFrom_30 (by decide) ?_
      obtain ⟨u3, h4, hf⟩ := jbind hf
      refine j_callS (st := []) hX (k_X4_augment (l := l) (D := D) (t := t) (ad := ad) (o := o) 16 g_count g_fitting g_holders g_chosen x2 x4 0 u3 h4) q317 q318 q8 q319 (n9 := 3) rfl ⟨by decide +kernel, by decide +kernel⟩ dX4_greatestFrom_31 (Nat.le_of_ble_eq_true rfl) ⟨Nat.le_refl _, Nat.le_refl _⟩ (fun w : va_W => w) jFr_id rfl rfl (fun v w hvw => ?_)
      obtain ⟨rfl, rfl⟩ := hvw
      change J X 0 0 (wG t ad o g_count g_fitting u3.2.1 g_chosen u3.2.2) 34 [(4, .int x4), (3, .int x3), (0, .ref (ad o)), (1, .int x1), (2, .int x2)] [.int u3.1]
      refine j_if_eq hX 40 dX4_greatestFrom_34 (by decide) hf (fun c34 hf => ?_) (fun c34 hf => ?_)
      · refine j_iinc hX (x4 + 1) [(4, .int (x4 + 1)), (3, .int x3), (0, .ref (ad o)), (1, .int x1), (2, .int x2)] dX4_greatestFrom_40 0 rfl rfl (by decide) rfl ?_
        refine j_goto hX 13 dX4_greatestFrom_43 (by decide) ?_
        exact ih (x4 + 1) x3 u3.2.1 u3.2.2 u hf kx
      · refine j_iinc hX (x3 + 1) [(3, .int (x3 + 1)), (4, .int x4), (0, .ref (ad o)), (1, .int x1), (2, .int x2)] dX4_greatestFrom_37 1 rfl rfl (by decide) rfl ?_
        refine j_iinc hX (x4 + 1) [(4, .int (x4 + 1)), (3, .int (x3 + 1)), (0, .ref (ad o)), (1, .int x1), (2, .int x2)] dX4_greatestFrom_40 1 rfl rfl (by decide) rfl ?_
        refine j_goto hX 13 dX4_greatestFrom_43 (by decide) ?_
        exact ih (x4 + 1) (x3 + 1) u3.2.1 u3.2.2 u hf kx
set_option maxHeartbeats 4000000 in
set_option maxRecDepth 100000 in
theorem k_X4_greatestFrom {l : Launch} {D : va_G} {t : Nat → ClassId} {ad : Nat → Nat} {o : Nat} (g_count : Int32) (g_fitting : Nat → Int32) (g_holders : Nat → Int32) (g_chosen : Nat → Int32) (g_untried : Int32) (a0 : Int32) (a1 : Int32) (u : Int32 × (Nat → Int32) × Int32) (hf : f_X4_greatestFrom g_count g_fitting g_holders g_untried a0 a1 = some u) : cm l D (jT t) yX4_greatestFrom cX4_greatestFrom 5 (some FieldType.int) { frames := 17, cells := 0, slots := 0, locals := 425 } [.ref (ad o), .int a0, .int a1] (wG t ad o g_count g_fitting g_holders g_chosen g_untried) (fun v w => v = (some (.int u.1)) ∧ w = wG t ad o g_count g_fitting u.2.1 g_chosen u.2.2) := by
  refine cm_of RX4 rfl (by decide +kernel) (Nat.le_of_ble_eq_true rfl) (fun X hX hE => ?_)
  change J X 0 0 (wG t ad o g_count g_fitting g_holders g_chosen g_untried) 0 [(0, .ref (ad o)), (1, .int a0), (2, .int a1)] []
  unfold f_X4_greatestFrom at hf
  refine j_aload_n hX dX4_greatestFrom_0 rfl 0 rfl ?_
  refine j_get hX dX4_greatestFrom_1 inX4 2 q131 0 rfl rfl (by decide) rfl rfl ?_
  refine j_iconst hX (-1) dX4_greatestFrom_4 (by decide) ?_
  obtain ⟨u1, h2, hf⟩ := jbind hf
  refine j_callS (st := []) hX (k_J7_fill_53178 (l := l) (D := D) (t := t) (ad := ad) (o := o + 2) 12 g_holders (-1) u1 h2) q316 q56 q4 q57 (n9 := 2) rfl ⟨by decide +kernel, by decide +kernel⟩ dX4_greatestFrom_5 (Nat.le_of_ble_eq_true rfl) ⟨Nat.le_refl _, Nat.le_refl _⟩ (fun w : va_W => [(ad (o), .inr (8, [.int g_count, .ref (ad (o + 1)), .ref (ad (o + 2)), .ref (ad (o + 3)), .int g_untried])), (ad (o + 1), .inl (t 0, 8, .inl g_fitting))] ++ (w ++ [(ad (o + 3), .inl (t 0, 8, .inl g_chosen))])) ⟨_, _, fun _ => rfl⟩ rfl rfl (fun v w hvw => ?_)
  obtain ⟨rfl, rfl⟩ := hvw
  change J X 0 0 (wG t ad o g_count g_fitting u1 g_chosen g_untried) 8 [(0, .ref (ad o)), (1, .int a0), (2, .int a1)] []
  refine j_iconst hX 0 dX4_greatestFrom_8 (by decide) ?_
  refine j_istore_n hX [(3, .int 0), (0, .ref (ad o)), (1, .int a0), (2, .int a1)] dX4_greatestFrom_9 rfl (by decide) rfl ?_
  refine j_iload_n hX dX4_greatestFrom_10 rfl 2 rfl ?_
  refine j_istore hX [(4, .int a0), (3, .int 0), (0, .ref (ad o)), (1, .int a0), (2, .int a1)] dX4_greatestFrom_11 (by decide) rfl ?_
  obtain ⟨s6, h7, hf⟩ := jbind hf
  refine k_X4_greatestFrom_L13 (ad := ad) g_count g_fitting a1 g_chosen a0 hX jFU a0 0 u1 g_untried s6 h7 (fun s60 es6 => ?_)
  subst es6
  refine j_iload_n hX dX4_greatestFrom_46 rfl 1 rfl ?_
  cases hf
  exact j_iret hX hE dX4_greatestFrom_47 (Nat.le_refl _) (Nat.le_refl _) ⟨rfl, rfl⟩
-- HammerDepot$Matching greatest ()I
def f_X4_greatest (g_count : Int32) (g_fitting : Nat → Int32) (g_holders : Nat → Int32) (g_untried : Int32) : Option (Int32 × (Nat → Int32) × Int32) :=
  Option.bind (f_X4_greatestFrom g_count g_fitting g_holders g_untried 0 4095) (fun u1 =>
    some (u1.1, u1.2.1, u1.2.2))
set_option maxHeartbeats 4000000 in
set_option maxRecDepth 100000 in
theorem k_X4_greatest {l : Launch} {D : va_G} {t : Nat → ClassId} {ad : Nat → Nat} {o : Nat} (g_count : Int32) (g_fitting : Nat → Int32) (g_holders : Nat → Int32) (g_chosen : Nat → Int32) (g_untried : Int32)  (u : Int32 × (Nat → Int32) × Int32) (hf : f_X4_greatest g_count g_fitting g_holders g_untried = some u) : cm l D (jT t) yX4_greatest cX4_greatest 1 (some FieldType.int) { frames := 18, cells := 0, slots := 0, locals := 449 } [.ref (ad o)] (wG t ad o g_count g_fitting g_holders g_chosen g_untried) (fun v w => v = (some (.int u.1)) ∧ w = wG t ad o g_count g_fitting u.2.1 g_chosen u.2.2) := by
  refine cm_of RX4 rfl (by decide +kernel) (Nat.le_of_ble_eq_true rfl) (fun X hX hE => ?_)
  change J X 0 0 (wG t ad o g_count g_fitting g_holders g_chosen g_untried) 0 [(0, .ref (ad o))] []
  unfold f_X4_greatest at hf
  refine j_aload_n hX dX4_greatest_0 rfl 0 rfl ?_
  refine j_iconst hX 0 dX4_greatest_1 (by decide) ?_
  refine j_sipush hX 4095 dX4_greatest_2 (by decide) ?_
  obtain ⟨u1, h2, hf⟩ := jbind hf
  refine j_callV (st := []) hX (k_X4_greatestFrom (l := l) (D := D) (t := t) (ad := ad) (o := o) g_count g_fitting g_holders g_chosen g_untried 0 4095 u1 h2) q313 q314 q1919 q8 q315 (n9 := 2) rfl ⟨by decide +kernel, by decide +kernel⟩ 0 rfl rfl rfl dX4_greatest_5 (Nat.le_of_ble_eq_true rfl) ⟨Nat.le_refl _, Nat.le_refl _⟩ (fun w : va_W => w) jFr_id rfl rfl (fun v w hvw => ?_)
  obtain ⟨rfl, rfl⟩ := hvw
  change J X 0 0 (wG t ad o g_count g_fitting u1.2.1 g_chosen u1.2.2) 8 [(0, .ref (ad o))] [.int u1.1]
  cases hf
  exact j_iret hX hE dX4_greatest_8 (Nat.le_refl _) (Nat.le_refl _) ⟨rfl, rfl⟩
-- HammerDepot$Matching fittingAny (I)I
def f_X4_fittingAny_L4 (g_count : Int32) (g_fitting : Nat → Int32) (x1 : Int32) : Nat → Int32 → Int32 → Option (Int32 × Int32)
  | 0, _, _ => none
  | jn + 1, x3, x2 =>
    if g_count ≤ x3 then
      some (x3, x2)
    else
      if (x1 &&& ((1 : Int32) <<< (x3 &&& 31))) = 0 then
        f_X4_fittingAny_L4 g_count g_fitting x1 jn (x3 + 1) x2
      else
        if jin x3 8 = true then
          f_X4_fittingAny_L4 g_count g_fitting x1 jn (x3 + 1) (x2 ||| (g_fitting (x3).toNatClampNeg))
        else none
def f_X4_fittingAny (g_count : Int32) (g_fitting : Nat → Int32) (a0 : Int32) : Option (Int32) :=
  Option.bind (f_X4_fittingAny_L4 g_count g_fitting a0 jFU 0 0) (fun s2 =>
    some s2.2)
set_option maxHeartbeats 4000000 in
set_option maxRecDepth 100000 in
theorem k_X4_fittingAny_L4 {l : Launch} {D : va_G} {t : Nat → ClassId} {ad : Nat → Nat} {o : Nat} (g_count : Int32) (g_fitting : Nat → Int32) (x1 : Int32) (g_holders : Nat → Int32) (g_chosen : Nat → Int32) (g_untried : Int32) {X : jX} (hX : jOK X l D (jT t) cX4_fittingAny RX4 (some FieldType.int) { frames := 0, cells := 0, slots := 0, locals := 0 } 4) :
    ∀ (jn : Nat) (x3 : Int32) (x2 : Int32) (u : Int32 × Int32) (hf : f_X4_fittingAny_L4 g_count g_fitting x1 jn x3 x2 = some u) (kx : ∀ s : Int32 × Int32, u = s → J X 0 0 (wG t ad o g_count g_fitting g_holders g_chosen g_untried) 35 [(3, .int s.1), (2, .int s.2), (0, .ref (ad o)), (1, .int x1)] []), J X 0 0 (wG t ad o g_count g_fitting g_holders g_chosen g_untried) 4 [(3, .int x3), (2, .int x2), (0, .ref (ad o)), (1, .int x1)] [] := by
  intro jn
  induction jn with
  | zero => intro x3 x2 u hf; cases (show (none : Option (Int32 × Int32)) = some u from hf)
  | succ jn ih =>
    intro x3 x2 u hf kx
    unfold f_X4_fittingAny_L4 at hf
    refine j_iload_n hX dX4_fittingAny_4 rfl 0 rfl ?_
    refine j_aload_n hX dX4_fittingAny_5 rfl 2 rfl ?_
    refine j_get hX dX4_fittingAny_6 inX4 0 q129 0 rfl rfl (by decide) rfl rfl ?_
    refine j_icmp_ge hX 35 dX4_fittingAny_9 (by decide) hf (fun c9 hf => ?_) (fun c9 hf => ?_)
    · cases hf
      exact kx _ rfl
    · refine j_iload_n hX dX4_fittingAny_12 rfl 3 rfl ?_
      refine j_iconst hX 1 dX4_fittingAny_13 (by decide) ?_
      refine j_iload_n hX dX4_fittingAny_14 rfl 0 rfl ?_
      refine j_ishl hX dX4_fittingAny_15 ?_
      refine j_iand hX dX4_fittingAny_16 ?_
      refine j_if_eq hX 29 dX4_fittingAny_17 (by decide) hf (fun c17 hf => ?_) (fun c17 hf => ?_)
      · refine j_iinc hX (x3 + 1) [(3, .int (x3 + 1)), (2, .int x2), (0, .ref (ad o)), (1, .int x1)] dX4_fittingAny_29 0 rfl rfl (by decide) rfl ?_
        refine j_goto hX 4 dX4_fittingAny_32 (by decide) ?_
        exact ih (x3 + 1) x2 u hf kx
      · refine j_iload_n hX dX4_fittingAny_20 rfl 1 rfl ?_
        refine j_aload_n hX dX4_fittingAny_21 rfl 2 rfl ?_
        refine j_get hX dX4_fittingAny_22 inX4 1 q130 0 rfl rfl (by decide) rfl rfl ?_
        refine j_iload_n hX dX4_fittingAny_25 rfl 0 rfl ?_
        refine j_iald hX dX4_fittingAny_26 1 0 rfl rfl hf (fun c26 hf => ?_)
        refine j_ior hX dX4_fittingAny_27 ?_
        refine j_istore_n hX [(2, .int (x2 ||| (g_fitting (x3).toNatClampNeg))), (3, .int x3), (0, .ref (ad o)), (1, .int x1)] dX4_fittingAny_28 rfl (by decide) rfl ?_
        refine j_iinc hX (x3 + 1) [(3, .int (x3 + 1)), (2, .int (x2 ||| (g_fitting (x3).toNatClampNeg))), (0, .ref (ad o)), (1, .int x1)] dX4_fittingAny_29 1 rfl rfl (by decide) rfl ?_
        refine j_goto hX 4 dX4_fittingAny_32 (by decide) ?_
        exact ih (x3 + 1) (x2 ||| (g_fitting (x3).toNatClampNeg)) u hf kx
set_option maxHeartbeats 4000000 in
set_option maxRecDepth 100000 in
theorem k_X4_fittingAny {l : Launch} {D : va_G} {t : Nat → ClassId} {ad : Nat → Nat} {o : Nat} (g_count : Int32) (g_fitting : Nat → Int32) (g_holders : Nat → Int32) (g_chosen : Nat → Int32) (g_untried : Int32) (a0 : Int32) (u : Int32) (hf : f_X4_fittingAny g_count g_fitting a0 = some u) : cm l D (jT t) yX4_fittingAny cX4_fittingAny 4 (some FieldType.int) { frames := 0, cells := 0, slots := 0, locals := 0 } [.ref (ad o), .int a0] (wG t ad o g_count g_fitting g_holders g_chosen g_untried) (fun v w => v = (some (.int u)) ∧ w = wG t ad o g_count g_fitting g_holders g_chosen g_untried) := by
  refine cm_of RX4 rfl (by decide +kernel) (Nat.le_of_ble_eq_true rfl) (fun X hX hE => ?_)
  change J X 0 0 (wG t ad o g_count g_fitting g_holders g_chosen g_untried) 0 [(0, .ref (ad o)), (1, .int a0)] []
  unfold f_X4_fittingAny at hf
  refine j_iconst hX 0 dX4_fittingAny_0 (by decide) ?_
  refine j_istore_n hX [(2, .int 0), (0, .ref (ad o)), (1, .int a0)] dX4_fittingAny_1 rfl (by decide) rfl ?_
  refine j_iconst hX 0 dX4_fittingAny_2 (by decide) ?_
  refine j_istore_n hX [(3, .int 0), (2, .int 0), (0, .ref (ad o)), (1, .int a0)] dX4_fittingAny_3 rfl (by decide) rfl ?_
  obtain ⟨s2, h3, hf⟩ := jbind hf
  refine k_X4_fittingAny_L4 (ad := ad) g_count g_fitting a0 g_holders g_chosen g_untried hX jFU 0 0 s2 h3 (fun s20 es2 => ?_)
  subst es2
  refine j_iload_n hX dX4_fittingAny_35 rfl 1 rfl ?_
  cases hf
  exact j_iret hX hE dX4_fittingAny_36 (Nat.le_refl _) (Nat.le_refl _) ⟨rfl, rfl⟩
-- HammerDepot$Matching greatestBySets ()I
def f_X4_greatestBySets_L7 (g_count : Int32) (g_fitting : Nat → Int32) : Nat → Int32 → Int32 → Option (Int32 × Int32)
  | 0, _, _ => none
  | jn + 1, x2, x1 =>
    if ((1 : Int32) <<< (g_count &&& 31)) ≤ x2 then
      some (x2, x1)
    else
      Option.bind (f_J6_bitCount_0f7a4 x2) (fun u1 =>
        Option.bind (f_X4_fittingAny g_count g_fitting x2) (fun u3 =>
          Option.bind (f_J6_bitCount_0f7a4 u3) (fun u5 =>
            f_X4_greatestBySets_L7 g_count g_fitting jn (x2 + 1) (jmin x1 ((g_count - u1) + u5)))))
def f_X4_greatestBySets (g_count : Int32) (g_fitting : Nat → Int32) : Option (Int32) :=
  Option.bind (f_X4_greatestBySets_L7 g_count g_fitting jFU 0 g_count) (fun s8 =>
    some s8.2)
set_option maxHeartbeats 4000000 in
set_option maxRecDepth 100000 in
theorem k_X4_greatestBySets_L7 {l : Launch} {D : va_G} {t : Nat → ClassId} {ad : Nat → Nat} {o : Nat} (g_count : Int32) (g_fitting : Nat → Int32) (g_holders : Nat → Int32) (g_chosen : Nat → Int32) (g_untried : Int32) {X : jX} (hX : jOK X l D (jT t) cX4_greatestBySets RX4 (some FieldType.int) { frames := 1, cells := 0, slots := 0, locals := 29 } 4) :
    ∀ (jn : Nat) (x2 : Int32) (x1 : Int32) (u : Int32 × Int32) (hf : f_X4_greatestBySets_L7 g_count g_fitting jn x2 x1 = some u) (kx : ∀ s : Int32 × Int32, u = s → J X 0 0 (wG t ad o g_count g_fitting g_holders g_chosen g_untried) 48 [(2, .int s.1), (1, .int s.2), (0, .ref (ad o))] []), J X 0 0 (wG t ad o g_count g_fitting g_holders g_chosen g_untried) 7 [(2, .int x2), (1, .int x1), (0, .ref (ad o))] [] := by
  intro jn
  induction jn with
  | zero => intro x2 x1 u hf; cases (show (none : Option (Int32 × Int32)) = some u from hf)
  | succ jn ih =>
    intro x2 x1 u hf kx
    unfold f_X4_greatestBySets_L7 at hf
    refine j_iload_n hX dX4_greatestBySets_7 rfl 0 rfl ?_
    refine j_iconst hX 1 dX4_greatestBySets_8 (by decide) ?_
    refine j_aload_n hX dX4_greatestBySets_9 rfl 2 rfl ?_
    refine j_get hX dX4_greatestBySets_10 inX4 0 q129 0 rfl rfl (by decide) rfl rfl ?_
    refine j_ishl hX dX4_greatestBySets_13 ?_
    refine j_icmp_ge hX 48 dX4_greatestBySets_14 (by decide) hf (fun c14 hf => ?_) (fun c14 hf => ?_)
    · cases hf
      exact kx _ rfl
    · refine j_aload_n hX dX4_greatestBySets_17 rfl 2 rfl ?_
      refine j_get hX dX4_greatestBySets_18 inX4 0 q129 0 rfl rfl (by decide) rfl rfl ?_
      refine j_iload_n hX dX4_greatestBySets_21 rfl 0 rfl ?_
      obtain ⟨u1, h2, hf⟩ := jbind hf
      refine j_callS (st := [.int g_count]) hX (k_J6_bitCount_0f7a4 (l := l) (D := D) (t := t) (ad := ad)  x2 u1 h2) q449 q450 q29 q451 (n9 := 1) rfl ⟨by decide +kernel, by decide +kernel⟩ dX4_greatestBySets_22 (Nat.le_of_ble_eq_true rfl) ⟨Nat.le_refl _, Nat.le_refl _⟩ (fun w : va_W => w ++ (wG t ad o g_count g_fitting g_holders g_chosen g_untried)) (jFr_r (wG t ad o g_count g_fitting g_holders g_chosen g_untried)) rfl rfl (fun v w hvw => ?_)
      obtain ⟨rfl, rfl⟩ := hvw
      change J X 0 0 (wG t ad o g_count g_fitting g_holders g_chosen g_untried) 25 [(2, .int x2), (1, .int x1), (0, .ref (ad o))] [.int u1, .int g_count]
      refine j_isub hX dX4_greatestBySets_25 ?_
      refine j_istore_n hX [(3, .int (g_count - u1)), (2, .int x2), (1, .int x1), (0, .ref (ad o))] dX4_greatestBySets_26 rfl (by decide) rfl ?_
      refine j_iload_n hX dX4_greatestBySets_27 rfl 2 rfl ?_
      refine j_iload_n hX dX4_greatestBySets_28 rfl 0 rfl ?_
      refine j_aload_n hX dX4_greatestBySets_29 rfl 3 rfl ?_
      refine j_iload_n hX dX4_greatestBySets_30 rfl 1 rfl ?_
      obtain ⟨u3, h4, hf⟩ := jbind hf
      refine j_callV (st := [.int (g_count - u1), .int x1]) hX (k_X4_fittingAny (l := l) (D := D) (t := t) (ad := ad) (o := o) g_count g_fitting g_holders g_chosen g_untried x2 u3 h4) q455 q456 q1924 q8 q457 (n9 := 1) rfl ⟨by decide +kernel, by decide +kernel⟩ 0 rfl rfl rfl dX4_greatestBySets_31 (Nat.le_of_ble_eq_true rfl) ⟨Nat.le_refl _, Nat.le_refl _⟩ (fun w : va_W => w) jFr_id rfl rfl (fun v w hvw => ?_)
      obtain ⟨rfl, rfl⟩ := hvw
      change J X 0 0 (wG t ad o g_count g_fitting g_holders g_chosen g_untried) 34 [(3, .int (g_count - u1)), (2, .int x2), (1, .int x1), (0, .ref (ad o))] [.int u3, .int (g_count - u1), .int x1]
      obtain ⟨u5, h6, hf⟩ := jbind hf
      refine j_callS (st := [.int (g_count - u1), .int x1]) hX (k_J6_bitCount_0f7a4 (l := l) (D := D) (t := t) (ad := ad)  u3 u5 h6) q449 q450 q29 q451 (n9 := 1) rfl ⟨by decide +kernel, by decide +kernel⟩ dX4_greatestBySets_34 (Nat.le_of_ble_eq_true rfl) ⟨Nat.le_refl _, Nat.le_refl _⟩ (fun w : va_W => w ++ (wG t ad o g_count g_fitting g_holders g_chosen g_untried)) (jFr_r (wG t ad o g_count g_fitting g_holders g_chosen g_untried)) rfl rfl (fun v w hvw => ?_)
      obtain ⟨rfl, rfl⟩ := hvw
      change J X 0 0 (wG t ad o g_count g_fitting g_holders g_chosen g_untried) 37 [(3, .int (g_count - u1)), (2, .int x2), (1, .int x1), (0, .ref (ad o))] [.int u5, .int (g_count - u1), .int x1]
      refine j_iadd hX dX4_greatestBySets_37 ?_
      refine j_mmin hX q252 dX4_greatestBySets_38 (Nat.le_of_ble_eq_true rfl) (by decide) ⟨Nat.le_refl _, Nat.le_refl _⟩ ?_
      refine j_istore_n hX [(1, .int (jmin x1 ((g_count - u1) + u5))), (3, .int (g_count - u1)), (2, .int x2), (0, .ref (ad o))] dX4_greatestBySets_41 rfl (by decide) rfl ?_
      refine j_iinc hX (x2 + 1) [(2, .int (x2 + 1)), (1, .int (jmin x1 ((g_count - u1) + u5))), (3, .int (g_count - u1)), (0, .ref (ad o))] dX4_greatestBySets_42 2 rfl rfl (by decide) rfl ?_
      refine j_goto hX 7 dX4_greatestBySets_45 (by decide) ?_
      refine j_sub hX [(2, .int (x2 + 1)), (1, .int (jmin x1 ((g_count - u1) + u5))), (0, .ref (ad o))] [0, 1, 3] rfl ?_
      exact ih (x2 + 1) (jmin x1 ((g_count - u1) + u5)) u hf kx
set_option maxHeartbeats 4000000 in
set_option maxRecDepth 100000 in
theorem k_X4_greatestBySets {l : Launch} {D : va_G} {t : Nat → ClassId} {ad : Nat → Nat} {o : Nat} (g_count : Int32) (g_fitting : Nat → Int32) (g_holders : Nat → Int32) (g_chosen : Nat → Int32) (g_untried : Int32)  (u : Int32) (hf : f_X4_greatestBySets g_count g_fitting = some u) : cm l D (jT t) yX4_greatestBySets cX4_greatestBySets 4 (some FieldType.int) { frames := 1, cells := 0, slots := 0, locals := 29 } [.ref (ad o)] (wG t ad o g_count g_fitting g_holders g_chosen g_untried) (fun v w => v = (some (.int u)) ∧ w = wG t ad o g_count g_fitting g_holders g_chosen g_untried) := by
  refine cm_of RX4 rfl (by decide +kernel) (Nat.le_of_ble_eq_true rfl) (fun X hX hE => ?_)
  change J X 0 0 (wG t ad o g_count g_fitting g_holders g_chosen g_untried) 0 [(0, .ref (ad o))] []
  unfold f_X4_greatestBySets at hf
  refine j_aload_n hX dX4_greatestBySets_0 rfl 0 rfl ?_
  refine j_get hX dX4_greatestBySets_1 inX4 0 q129 0 rfl rfl (by decide) rfl rfl ?_
  refine j_istore_n hX [(1, .int g_count), (0, .ref (ad o))] dX4_greatestBySets_4 rfl (by decide) rfl ?_
  refine j_iconst hX 0 dX4_greatestBySets_5 (by decide) ?_
  refine j_istore_n hX [(2, .int 0), (1, .int g_count), (0, .ref (ad o))] dX4_greatestBySets_6 rfl (by decide) rfl ?_
  obtain ⟨s8, h9, hf⟩ := jbind hf
  refine k_X4_greatestBySets_L7 (ad := ad) g_count g_fitting g_holders g_chosen g_untried hX jFU 0 g_count s8 h9 (fun s80 es8 => ?_)
  subst es8
  refine j_iload_n hX dX4_greatestBySets_48 rfl 1 rfl ?_
  cases hf
  exact j_iret hX hE dX4_greatestBySets_49 (Nat.le_refl _) (Nat.le_refl _) ⟨rfl, rfl⟩
-- HammerDepot$Matching firstThatKeeps (III)I
def f_X4_firstThatKeeps_L3 (g_count : Int32) (g_fitting : Nat → Int32) (x1 : Int32) (x2 : Int32) (x3 : Int32) : Nat → Int32 → (Nat → Int32) → Int32 → Option ((Int32 × (Nat → Int32) × Int32) ⊕ (Int32 × (Nat → Int32) × Int32))
  | 0, _, _, _ => none
  | jn + 1, x4, g_holders, g_untried =>
    if 12 ≤ x4 then
      some (.inr (x4, g_holders, g_untried))
    else
      if jin x2 8 = true then
        if (((g_fitting (x2).toNatClampNeg) &&& x3) &&& ((1 : Int32) <<< (x4 &&& 31))) = 0 then
          f_X4_firstThatKeeps_L3 g_count g_fitting x1 x2 x3 jn (x4 + 1) g_holders g_untried
        else
          Option.bind (f_X4_greatestFrom g_count g_fitting g_holders g_untried (x2 + 1) (x3 &&& (((1 : Int32) <<< (x4 &&& 31)) ^^^ (-1)))) (fun u1 =>
            if ((1 : Int32) + u1.1) < x1 then
              f_X4_firstThatKeeps_L3 g_count g_fitting x1 x2 x3 jn (x4 + 1) u1.2.1 u1.2.2
            else
              some (.inl (x4, u1.2.1, u1.2.2)))
      else none
def f_X4_firstThatKeeps (g_count : Int32) (g_fitting : Nat → Int32) (g_holders : Nat → Int32) (g_untried : Int32) (a0 : Int32) (a1 : Int32) (a2 : Int32) : Option (Int32 × (Nat → Int32) × Int32) :=
  Option.bind (f_X4_firstThatKeeps_L3 g_count g_fitting a0 a1 a2 jFU 0 g_holders g_untried) (fun o3 => Sum.elim (fun r => some r) (fun s4 =>
    some ((-1), s4.2.1, s4.2.2)) o3)
set_option maxHeartbeats 4000000 in
set_option maxRecDepth 100000 in
theorem k_X4_firstThatKeeps_L3 {l : Launch} {D : va_G} {t : Nat → ClassId} {ad : Nat → Nat} {o : Nat} (g_count : Int32) (g_fitting : Nat → Int32) (x1 : Int32) (x2 : Int32) (x3 : Int32) (g_chosen : Nat → Int32) {X : jX} (hX : jOK X l D (jT t) cX4_firstThatKeeps RX4 (some FieldType.int) { frames := 18, cells := 0, slots := 0, locals := 449 } 6) {PP : Option Value → va_W → Prop} (hE : jEnd X PP 0 0) :
    ∀ (jn : Nat) (x4 : Int32) (g_holders : Nat → Int32) (g_untried : Int32) (u : (Int32 × (Nat → Int32) × Int32) ⊕ (Int32 × (Nat → Int32) × Int32)) (hf : f_X4_firstThatKeeps_L3 g_count g_fitting x1 x2 x3 jn x4 g_holders g_untried = some u) (kx : ∀ s : Int32 × (Nat → Int32) × Int32, u = .inr s → J X 0 0 (wG t ad o g_count g_fitting s.2.1 g_chosen s.2.2) 58 [(4, .int s.1), (0, .ref (ad o)), (1, .int x1), (2, .int x2), (3, .int x3)] []) (kr : ∀ r : Int32 × (Nat → Int32) × Int32, u = .inl r → PP (some (.int r.1)) (wG t ad o g_count g_fitting r.2.1 g_chosen r.2.2)), J X 0 0 (wG t ad o g_count g_fitting g_holders g_chosen g_untried) 3 [(4, .int x4), (0, .ref (ad o)), (1, .int x1), (2, .int x2), (3, .int x3)] [] := by
  intro jn
  induction jn with
  | zero => intro x4 g_holders g_untried u hf; cases (show (none : Option ((Int32 × (Nat → Int32) × Int32) ⊕ (Int32 × (Nat → Int32) × Int32))) = some u from hf)
  | succ jn ih =>
    intro x4 g_holders g_untried u hf kx kr
    unfold f_X4_firstThatKeeps_L3 at hf
    refine j_iload hX dX4_firstThatKeeps_3 0 rfl ?_
    refine j_bipush hX 12 dX4_firstThatKeeps_5 (by decide) ?_
    refine j_icmp_ge hX 58 dX4_firstThatKeeps_7 (by decide) hf (fun c7 hf => ?_) (fun c7 hf => ?_)
    · cases hf
      exact kx _ rfl
    · refine j_iconst hX 1 dX4_firstThatKeeps_10 (by decide) ?_
      refine j_iload hX dX4_firstThatKeeps_11 0 rfl ?_
      refine j_ishl hX dX4_firstThatKeeps_13 ?_
      refine j_istore hX [(5, .int ((1 : Int32) <<< (x4 &&& 31))), (4, .int x4), (0, .ref (ad o)), (1, .int x1), (2, .int x2), (3, .int x3)] dX4_firstThatKeeps_14 (by decide) rfl ?_
      refine j_aload_n hX dX4_firstThatKeeps_16 rfl 2 rfl ?_
      refine j_get hX dX4_firstThatKeeps_17 inX4 1 q130 0 rfl rfl (by decide) rfl rfl ?_
      refine j_iload_n hX dX4_firstThatKeeps_20 rfl 4 rfl ?_
      refine j_iald hX dX4_firstThatKeeps_21 1 0 rfl rfl hf (fun c21 hf => ?_)
      refine j_iload_n hX dX4_firstThatKeeps_22 rfl 5 rfl ?_
      refine j_iand hX dX4_firstThatKeeps_23 ?_
      refine j_iload hX dX4_firstThatKeeps_24 0 rfl ?_
      refine j_iand hX dX4_firstThatKeeps_26 ?_
      refine j_if_eq hX 52 dX4_firstThatKeeps_27 (by decide) hf (fun c27 hf => ?_) (fun c27 hf => ?_)
      · refine j_iinc hX (x4 + 1) [(4, .int (x4 + 1)), (5, .int ((1 : Int32) <<< (x4 &&& 31))), (0, .ref (ad o)), (1, .int x1), (2, .int x2), (3, .int x3)] dX4_firstThatKeeps_52 1 rfl rfl (by decide) rfl ?_
        refine j_goto hX 3 dX4_firstThatKeeps_55 (by decide) ?_
        refine j_sub hX [(4, .int (x4 + 1)), (0, .ref (ad o)), (1, .int x1), (2, .int x2), (3, .int x3)] [0, 2, 3, 4, 5] rfl ?_
        exact ih (x4 + 1) g_holders g_untried u hf kx kr
      · refine j_iconst hX 1 dX4_firstThatKeeps_30 (by decide) ?_
        refine j_aload_n hX dX4_firstThatKeeps_31 rfl 2 rfl ?_
        refine j_iload_n hX dX4_firstThatKeeps_32 rfl 4 rfl ?_
        refine j_iconst hX 1 dX4_firstThatKeeps_33 (by decide) ?_
        refine j_iadd hX dX4_firstThatKeeps_34 ?_
        refine j_iload_n hX dX4_firstThatKeeps_35 rfl 5 rfl ?_
        refine j_iload hX dX4_firstThatKeeps_36 0 rfl ?_
        refine j_iconst hX (-1) dX4_firstThatKeeps_38 (by decide) ?_
        refine j_ixor hX dX4_firstThatKeeps_39 ?_
        refine j_iand hX dX4_firstThatKeeps_40 ?_
        obtain ⟨u1, h2, hf⟩ := jbind hf
        refine j_callV (st := [.int 1]) hX (k_X4_greatestFrom (l := l) (D := D) (t := t) (ad := ad) (o := o) g_count g_fitting g_holders g_chosen g_untried (x2 + 1) (x3 &&& (((1 : Int32) <<< (x4 &&& 31)) ^^^ (-1))) u1 h2) q313 q314 q1919 q8 q315 (n9 := 2) rfl ⟨by decide +kernel, by decide +kernel⟩ 0 rfl rfl rfl dX4_firstThatKeeps_41 (Nat.le_of_ble_eq_true rfl) ⟨Nat.le_refl _, Nat.le_refl _⟩ (fun w : va_W => w) jFr_id rfl rfl (fun v w hvw => ?_)
        obtain ⟨rfl, rfl⟩ := hvw
        change J X 0 0 (wG t ad o g_count g_fitting u1.2.1 g_chosen u1.2.2) 44 [(5, .int ((1 : Int32) <<< (x4 &&& 31))), (4, .int x4), (0, .ref (ad o)), (1, .int x1), (2, .int x2), (3, .int x3)] [.int u1.1, .int 1]
        refine j_iadd hX dX4_firstThatKeeps_44 ?_
        refine j_iload_n hX dX4_firstThatKeeps_45 rfl 3 rfl ?_
        refine j_icmp_lt hX 52 dX4_firstThatKeeps_46 (by decide) hf (fun c46 hf => ?_) (fun c46 hf => ?_)
        · refine j_iinc hX (x4 + 1) [(4, .int (x4 + 1)), (5, .int ((1 : Int32) <<< (x4 &&& 31))), (0, .ref (ad o)), (1, .int x1), (2, .int x2), (3, .int x3)] dX4_firstThatKeeps_52 1 rfl rfl (by decide) rfl ?_
          refine j_goto hX 3 dX4_firstThatKeeps_55 (by decide) ?_
          refine j_sub hX [(4, .int (x4 + 1)), (0, .ref (ad o)), (1, .int x1), (2, .int x2), (3, .int x3)] [0, 2, 3, 4, 5] rfl ?_
          exact ih (x4 + 1) u1.2.1 u1.2.2 u hf kx kr
        · refine j_iload hX dX4_firstThatKeeps_49 1 rfl ?_
          cases hf
          exact j_iret hX hE dX4_firstThatKeeps_51 (Nat.le_refl _) (Nat.le_refl _) (kr _ rfl)
set_option maxHeartbeats 4000000 in
set_option maxRecDepth 100000 in
theorem k_X4_firstThatKeeps {l : Launch} {D : va_G} {t : Nat → ClassId} {ad : Nat → Nat} {o : Nat} (g_count : Int32) (g_fitting : Nat → Int32) (g_holders : Nat → Int32) (g_chosen : Nat → Int32) (g_untried : Int32) (a0 : Int32) (a1 : Int32) (a2 : Int32) (u : Int32 × (Nat → Int32) × Int32) (hf : f_X4_firstThatKeeps g_count g_fitting g_holders g_untried a0 a1 a2 = some u) : cm l D (jT t) yX4_firstThatKeeps cX4_firstThatKeeps 6 (some FieldType.int) { frames := 18, cells := 0, slots := 0, locals := 449 } [.ref (ad o), .int a0, .int a1, .int a2] (wG t ad o g_count g_fitting g_holders g_chosen g_untried) (fun v w => v = (some (.int u.1)) ∧ w = wG t ad o g_count g_fitting u.2.1 g_chosen u.2.2) := by
  refine cm_of RX4 rfl (by decide +kernel) (Nat.le_of_ble_eq_true rfl) (fun X hX hE => ?_)
  change J X 0 0 (wG t ad o g_count g_fitting g_holders g_chosen g_untried) 0 [(0, .ref (ad o)), (1, .int a0), (2, .int a1), (3, .int a2)] []
  unfold f_X4_firstThatKeeps at hf
  refine j_iconst hX 0 dX4_firstThatKeeps_0 (by decide) ?_
  refine j_istore hX [(4, .int 0), (0, .ref (ad o)), (1, .int a0), (2, .int a1), (3, .int a2)] dX4_firstThatKeeps_1 (by decide) rfl ?_
  obtain ⟨o3, h5, hf⟩ := jbind hf
  refine k_X4_firstThatKeeps_L3 (ad := ad) g_count g_fitting a0 a1 a2 g_chosen hX hE jFU 0 g_holders g_untried o3 h5 (fun s4 es4 => ?_) (fun r er => ?_)
  · subst es4
    have hf := jsum_r hf
    refine j_iconst hX (-1) dX4_firstThatKeeps_58 (by decide) ?_
    cases hf
    exact j_iret hX hE dX4_firstThatKeeps_59 (Nat.le_refl _) (Nat.le_refl _) ⟨rfl, rfl⟩
  · subst er
    cases hf
    exact ⟨rfl, rfl⟩
-- HammerDepot$Matching choose ()I
def f_X4_choose_L22 (g_count : Int32) (g_fitting : Nat → Int32) (x1 : Int32) : Nat → Int32 → Int32 → Int32 → (Nat → Int32) → (Nat → Int32) → Int32 → Option (Int32 × Int32 × Int32 × (Nat → Int32) × (Nat → Int32) × Int32)
  | 0, _, _, _, _, _, _ => none
  | jn + 1, x4, x3, x2, g_holders, g_chosen, g_untried =>
    if g_count ≤ x4 then
      some (x4, x3, x2, g_holders, g_chosen, g_untried)
    else
      Option.bind (f_X4_firstThatKeeps g_count g_fitting g_holders g_untried (x1 - x3) x4 x2) (fun u5 =>
        if u5.1 = (-1) then
          f_X4_choose_L22 g_count g_fitting x1 jn (x4 + 1) x3 x2 u5.2.1 g_chosen u5.2.2
        else
          if jin x4 8 = true then
            f_X4_choose_L22 g_count g_fitting x1 jn (x4 + 1) (x3 + 1) (x2 &&& (((1 : Int32) <<< (u5.1 &&& 31)) ^^^ (-1))) u5.2.1 (upd g_chosen (x4).toNatClampNeg u5.1) u5.2.2
          else none)
def f_X4_choose (g_count : Int32) (g_fitting : Nat → Int32) (g_holders : Nat → Int32) (g_chosen : Nat → Int32) (g_untried : Int32) : Option (Int32 × (Nat → Int32) × (Nat → Int32) × Int32) :=
  Option.bind (f_X4_greatest g_count g_fitting g_holders g_untried) (fun u1 =>
    Option.bind (f_J7_fill_53178 8 g_chosen (-1)) (fun u3 =>
      Option.bind (f_X4_choose_L22 g_count g_fitting u1.1 jFU 0 0 4095 u1.2.1 u3 u1.2.2) (fun s8 =>
        some (s8.2.1, s8.2.2.2.1, s8.2.2.2.2.1, s8.2.2.2.2.2))))
set_option maxHeartbeats 4000000 in
set_option maxRecDepth 100000 in
theorem k_X4_choose_L22 {l : Launch} {D : va_G} {t : Nat → ClassId} {ad : Nat → Nat} {o : Nat} (g_count : Int32) (g_fitting : Nat → Int32) (x1 : Int32)  {X : jX} (hX : jOK X l D (jT t) cX4_choose RX4 (some FieldType.int) { frames := 19, cells := 0, slots := 0, locals := 474 } 6) :
    ∀ (jn : Nat) (x4 : Int32) (x3 : Int32) (x2 : Int32) (g_holders : Nat → Int32) (g_chosen : Nat → Int32) (g_untried : Int32) (u : Int32 × Int32 × Int32 × (Nat → Int32) × (Nat → Int32) × Int32) (hf : f_X4_choose_L22 g_count g_fitting x1 jn x4 x3 x2 g_holders g_chosen g_untried = some u) (kx : ∀ s : Int32 × Int32 × Int32 × (Nat → Int32) × (Nat → Int32) × Int32, u = s → J X 0 0 (wG t ad o g_count g_fitting s.2.2.2.1 s.2.2.2.2.1 s.2.2.2.2.2) 76 [(4, .int s.1), (3, .int s.2.1), (2, .int s.2.2.1), (1, .int x1), (0, .ref (ad o))] []), J X 0 0 (wG t ad o g_count g_fitting g_holders g_chosen g_untried) 22 [(4, .int x4), (3, .int x3), (2, .int x2), (1, .int x1), (0, .ref (ad o))] [] := by
  intro jn
  induction jn with
  | zero => intro x4 x3 x2 g_holders g_chosen g_untried u hf; cases (show (none : Option (Int32 × Int32 × Int32 × (Nat → Int32) × (Nat → Int32) × Int32)) = some u from hf)
  | succ jn ih =>
    intro x4 x3 x2 g_holders g_chosen g_untried u hf kx
    unfold f_X4_choose_L22 at hf
    refine j_iload hX dX4_choose_22 0 rfl ?_
    refine j_aload_n hX dX4_choose_24 rfl 4 rfl ?_
    refine j_get hX dX4_choose_25 inX4 0 q129 0 rfl rfl (by decide) rfl rfl ?_
    refine j_icmp_ge hX 76 dX4_choose_28 (by decide) hf (fun c28 hf => ?_) (fun c28 hf => ?_)
    · cases hf
      exact kx _ rfl
    · refine j_aload_n hX dX4_choose_31 rfl 4 rfl ?_
      refine j_iload_n hX dX4_choose_32 rfl 3 rfl ?_
      refine j_iload_n hX dX4_choose_33 rfl 1 rfl ?_
      refine j_isub hX dX4_choose_34 ?_
      refine j_iload hX dX4_choose_35 0 rfl ?_
      refine j_iload_n hX dX4_choose_37 rfl 2 rfl ?_
      obtain ⟨u5, h6, hf⟩ := jbind hf
      refine j_callV (st := []) hX (k_X4_firstThatKeeps (l := l) (D := D) (t := t) (ad := ad) (o := o) g_count g_fitting g_holders g_chosen g_untried (x1 - x3) x4 x2 u5 h6) q320 q321 q1920 q8 q322 (n9 := 3) rfl ⟨by decide +kernel, by decide +kernel⟩ 0 rfl rfl rfl dX4_choose_38 (Nat.le_of_ble_eq_true rfl) ⟨Nat.le_refl _, Nat.le_refl _⟩ (fun w : va_W => w) jFr_id rfl rfl (fun v w hvw => ?_)
      obtain ⟨rfl, rfl⟩ := hvw
      change J X 0 0 (wG t ad o g_count g_fitting u5.2.1 g_chosen u5.2.2) 41 [(4, .int x4), (3, .int x3), (2, .int x2), (1, .int x1), (0, .ref (ad o))] [.int u5.1]
      refine j_istore hX [(5, .int u5.1), (4, .int x4), (3, .int x3), (2, .int x2), (1, .int x1), (0, .ref (ad o))] dX4_choose_41 (by decide) rfl ?_
      refine j_iload hX dX4_choose_43 0 rfl ?_
      refine j_iconst hX (-1) dX4_choose_45 (by decide) ?_
      refine j_icmp_eq hX 70 dX4_choose_46 (by decide) hf (fun c46 hf => ?_) (fun c46 hf => ?_)
      · refine j_iinc hX (x4 + 1) [(4, .int (x4 + 1)), (5, .int u5.1), (3, .int x3), (2, .int x2), (1, .int x1), (0, .ref (ad o))] dX4_choose_70 1 rfl rfl (by decide) rfl ?_
        refine j_goto hX 22 dX4_choose_73 (by decide) ?_
        refine j_sub hX [(4, .int (x4 + 1)), (3, .int x3), (2, .int x2), (1, .int x1), (0, .ref (ad o))] [0, 2, 3, 4, 5] rfl ?_
        exact ih (x4 + 1) x3 x2 u5.2.1 g_chosen u5.2.2 u hf kx
      · refine j_aload_n hX dX4_choose_49 rfl 5 rfl ?_
        refine j_get hX dX4_choose_50 inX4 3 q132 0 rfl rfl (by decide) rfl rfl ?_
        refine j_iload hX dX4_choose_53 1 rfl ?_
        refine j_iload hX dX4_choose_55 0 rfl ?_
        refine j_iast hX (wG t ad o g_count g_fitting u5.2.1 (upd g_chosen (x4).toNatClampNeg u5.1) u5.2.2) dX4_choose_57 3 0 rfl rfl rfl hf (fun c57 hf => ?_)
        refine j_iload_n hX dX4_choose_58 rfl 3 rfl ?_
        refine j_iconst hX 1 dX4_choose_59 (by decide) ?_
        refine j_iload hX dX4_choose_60 0 rfl ?_
        refine j_ishl hX dX4_choose_62 ?_
        refine j_iconst hX (-1) dX4_choose_63 (by decide) ?_
        refine j_ixor hX dX4_choose_64 ?_
        refine j_iand hX dX4_choose_65 ?_
        refine j_istore_n hX [(2, .int (x2 &&& (((1 : Int32) <<< (u5.1 &&& 31)) ^^^ (-1)))), (5, .int u5.1), (4, .int x4), (3, .int x3), (1, .int x1), (0, .ref (ad o))] dX4_choose_66 rfl (by decide) rfl ?_
        refine j_iinc hX (x3 + 1) [(3, .int (x3 + 1)), (2, .int (x2 &&& (((1 : Int32) <<< (u5.1 &&& 31)) ^^^ (-1)))), (5, .int u5.1), (4, .int x4), (1, .int x1), (0, .ref (ad o))] dX4_choose_67 3 rfl rfl (by decide) rfl ?_
        refine j_iinc hX (x4 + 1) [(4, .int (x4 + 1)), (3, .int (x3 + 1)), (2, .int (x2 &&& (((1 : Int32) <<< (u5.1 &&& 31)) ^^^ (-1)))), (5, .int u5.1), (1, .int x1), (0, .ref (ad o))] dX4_choose_70 3 rfl rfl (by decide) rfl ?_
        refine j_goto hX 22 dX4_choose_73 (by decide) ?_
        refine j_sub hX [(4, .int (x4 + 1)), (3, .int (x3 + 1)), (2, .int (x2 &&& (((1 : Int32) <<< (u5.1 &&& 31)) ^^^ (-1)))), (1, .int x1), (0, .ref (ad o))] [0, 1, 2, 4, 5] rfl ?_
        exact ih (x4 + 1) (x3 + 1) (x2 &&& (((1 : Int32) <<< (u5.1 &&& 31)) ^^^ (-1))) u5.2.1 (upd g_chosen (x4).toNatClampNeg u5.1) u5.2.2 u hf kx
set_option maxHeartbeats 4000000 in
set_option maxRecDepth 100000 in
theorem k_X4_choose {l : Launch} {D : va_G} {t : Nat → ClassId} {ad : Nat → Nat} {o : Nat} (g_count : Int32) (g_fitting : Nat → Int32) (g_holders : Nat → Int32) (g_chosen : Nat → Int32) (g_untried : Int32)  (u : Int32 × (Nat → Int32) × (Nat → Int32) × Int32) (hf : f_X4_choose g_count g_fitting g_holders g_chosen g_untried = some u) : cm l D (jT t) yX4_choose cX4_choose 6 (some FieldType.int) { frames := 19, cells := 0, slots := 0, locals := 474 } [.ref (ad o)] (wG t ad o g_count g_fitting g_holders g_chosen g_untried) (fun v w => v = (some (.int u.1)) ∧ w = wG t ad o g_count g_fitting u.2.1 u.2.2.1 u.2.2.2) := by
  refine cm_of RX4 rfl (by decide +kernel) (Nat.le_of_ble_eq_true rfl) (fun X hX hE => ?_)
  change J X 0 0 (wG t ad o g_count g_fitting g_holders g_chosen g_untried) 0 [(0, .ref (ad o))] []
  unfold f_X4_choose at hf
  refine j_aload_n hX dX4_choose_0 rfl 0 rfl ?_
  obtain ⟨u1, h2, hf⟩ := jbind hf
  refine j_callV (st := []) hX (k_X4_greatest (l := l) (D := D) (t := t) (ad := ad) (o := o) g_count g_fitting g_holders g_chosen g_untried  u1 h2) q309 q310 q311 q8 q312 (n9 := 0) rfl ⟨by decide +kernel, by decide +kernel⟩ 0 rfl rfl rfl dX4_choose_1 (Nat.le_of_ble_eq_true rfl) ⟨Nat.le_refl _, Nat.le_refl _⟩ (fun w : va_W => w) jFr_id rfl rfl (fun v w hvw => ?_)
  obtain ⟨rfl, rfl⟩ := hvw
  change J X 0 0 (wG t ad o g_count g_fitting u1.2.1 g_chosen u1.2.2) 4 [(0, .ref (ad o))] [.int u1.1]
  refine j_istore_n hX [(1, .int u1.1), (0, .ref (ad o))] dX4_choose_4 rfl (by decide) rfl ?_
  refine j_sipush hX 4095 dX4_choose_5 (by decide) ?_
  refine j_istore_n hX [(2, .int 4095), (1, .int u1.1), (0, .ref (ad o))] dX4_choose_8 rfl (by decide) rfl ?_
  refine j_iconst hX 0 dX4_choose_9 (by decide) ?_
  refine j_istore_n hX [(3, .int 0), (2, .int 4095), (1, .int u1.1), (0, .ref (ad o))] dX4_choose_10 rfl (by decide) rfl ?_
  refine j_aload_n hX dX4_choose_11 rfl 3 rfl ?_
  refine j_get hX dX4_choose_12 inX4 3 q132 0 rfl rfl (by decide) rfl rfl ?_
  refine j_iconst hX (-1) dX4_choose_15 (by decide) ?_
  obtain ⟨u3, h4, hf⟩ := jbind hf
  refine j_callS (st := []) hX (k_J7_fill_53178 (l := l) (D := D) (t := t) (ad := ad) (o := o + 3) 8 g_chosen (-1) u3 h4) q316 q56 q4 q57 (n9 := 2) rfl ⟨by decide +kernel, by decide +kernel⟩ dX4_choose_16 (Nat.le_of_ble_eq_true rfl) ⟨Nat.le_refl _, Nat.le_refl _⟩ (fun w : va_W => [(ad (o), .inr (8, [.int g_count, .ref (ad (o + 1)), .ref (ad (o + 2)), .ref (ad (o + 3)), .int u1.2.2])), (ad (o + 1), .inl (t 0, 8, .inl g_fitting)), (ad (o + 2), .inl (t 0, 12, .inl u1.2.1))] ++ (w ++ [])) ⟨_, _, fun _ => rfl⟩ rfl rfl (fun v w hvw => ?_)
  obtain ⟨rfl, rfl⟩ := hvw
  change J X 0 0 (wG t ad o g_count g_fitting u1.2.1 u3 u1.2.2) 19 [(3, .int 0), (2, .int 4095), (1, .int u1.1), (0, .ref (ad o))] []
  refine j_iconst hX 0 dX4_choose_19 (by decide) ?_
  refine j_istore hX [(4, .int 0), (3, .int 0), (2, .int 4095), (1, .int u1.1), (0, .ref (ad o))] dX4_choose_20 (by decide) rfl ?_
  obtain ⟨s8, h9, hf⟩ := jbind hf
  refine k_X4_choose_L22 (ad := ad) g_count g_fitting u1.1  hX jFU 0 0 4095 u1.2.1 u3 u1.2.2 s8 h9 (fun s80 es8 => ?_)
  subst es8
  refine j_iload_n hX dX4_choose_76 rfl 1 rfl ?_
  cases hf
  exact j_iret hX hE dX4_choose_77 (Nat.le_refl _) (Nat.le_refl _) ⟨rfl, rfl⟩
-- HammerDepot$Matching chosenFor (I)I
def f_X4_chosenFor (g_count : Int32) (g_chosen : Nat → Int32) (a0 : Int32) : Option (Int32) :=
  if a0 < 0 then
    some (-1)
  else
    if g_count ≤ a0 then
      some (-1)
    else
      if jin a0 8 = true then
        some (g_chosen (a0).toNatClampNeg)
      else none
set_option maxHeartbeats 4000000 in
set_option maxRecDepth 100000 in
theorem k_X4_chosenFor {l : Launch} {D : va_G} {t : Nat → ClassId} {ad : Nat → Nat} {o : Nat} (g_count : Int32) (g_fitting : Nat → Int32) (g_holders : Nat → Int32) (g_chosen : Nat → Int32) (g_untried : Int32) (a0 : Int32) (u : Int32) (hf : f_X4_chosenFor g_count g_chosen a0 = some u) : cm l D (jT t) yX4_chosenFor cX4_chosenFor 2 (some FieldType.int) { frames := 0, cells := 0, slots := 0, locals := 0 } [.ref (ad o), .int a0] (wG t ad o g_count g_fitting g_holders g_chosen g_untried) (fun v w => v = (some (.int u)) ∧ w = wG t ad o g_count g_fitting g_holders g_chosen g_untried) := by
  refine cm_of RX4 rfl (by decide +kernel) (Nat.le_of_ble_eq_true rfl) (fun X hX hE => ?_)
  change J X 0 0 (wG t ad o g_count g_fitting g_holders g_chosen g_untried) 0 [(0, .ref (ad o)), (1, .int a0)] []
  unfold f_X4_chosenFor at hf
  refine j_iload_n hX dX4_chosenFor_0 rfl 1 rfl ?_
  refine j_if_lt hX 21 dX4_chosenFor_1 (by decide) hf (fun c1 hf => ?_) (fun c1 hf => ?_)
  · refine j_iconst hX (-1) dX4_chosenFor_21 (by decide) ?_
    cases hf
    exact j_iret hX hE dX4_chosenFor_22 (Nat.le_refl _) (Nat.le_refl _) ⟨rfl, rfl⟩
  · refine j_iload_n hX dX4_chosenFor_4 rfl 1 rfl ?_
    refine j_aload_n hX dX4_chosenFor_5 rfl 0 rfl ?_
    refine j_get hX dX4_chosenFor_6 inX4 0 q129 0 rfl rfl (by decide) rfl rfl ?_
    refine j_icmp_ge hX 21 dX4_chosenFor_9 (by decide) hf (fun c9 hf => ?_) (fun c9 hf => ?_)
    · refine j_iconst hX (-1) dX4_chosenFor_21 (by decide) ?_
      cases hf
      exact j_iret hX hE dX4_chosenFor_22 (Nat.le_refl _) (Nat.le_refl _) ⟨rfl, rfl⟩
    · refine j_aload_n hX dX4_chosenFor_12 rfl 0 rfl ?_
      refine j_get hX dX4_chosenFor_13 inX4 3 q132 0 rfl rfl (by decide) rfl rfl ?_
      refine j_iload_n hX dX4_chosenFor_16 rfl 1 rfl ?_
      refine j_iald hX dX4_chosenFor_17 3 0 rfl rfl hf (fun c17 hf => ?_)
      refine j_goto hX 22 dX4_chosenFor_18 (by decide) ?_
      cases hf
      exact j_iret hX hE dX4_chosenFor_22 (Nat.le_refl _) (Nat.le_refl _) ⟨rfl, rfl⟩

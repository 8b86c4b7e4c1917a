-- HammerDepot$Bookings copyFrom (LHammerDepot$Bookings;)V
def f_X0_copyFrom (b_count : Int32) (b_hammers : Nat → Int32) (b_borrowers : Nat → Int32) (b_firstDays : Nat → Int32) (b_lastDays : Nat → Int32) (nb_count : Int32) (nb_hammers : Nat → Int32) (nb_borrowers : Nat → Int32) (nb_firstDays : Nat → Int32) (nb_lastDays : Nat → Int32) : Option (Int32 × (Nat → Int32) × (Nat → Int32) × (Nat → Int32) × (Nat → Int32)) :=
  if (jmin nb_count (480 : Int32)) < 0 then
    some (b_count, b_hammers, b_borrowers, b_firstDays, b_lastDays)
  else
    if jcp 0 0 (jmin nb_count (480 : Int32)) 480 480 = true then
      if jcp 0 0 (jmin nb_count (480 : Int32)) 480 480 = true then
        if jcp 0 0 (jmin nb_count (480 : Int32)) 480 480 = true then
          if jcp 0 0 (jmin nb_count (480 : Int32)) 480 480 = true then
            some (jmin nb_count (480 : Int32), va_cpy nb_hammers b_hammers (0 : Int32).toNatClampNeg (0 : Int32).toNatClampNeg (jmin nb_count (480 : Int32)).toNatClampNeg, va_cpy nb_borrowers b_borrowers (0 : Int32).toNatClampNeg (0 : Int32).toNatClampNeg (jmin nb_count (480 : Int32)).toNatClampNeg, va_cpy nb_firstDays b_firstDays (0 : Int32).toNatClampNeg (0 : Int32).toNatClampNeg (jmin nb_count (480 : Int32)).toNatClampNeg, va_cpy nb_lastDays b_lastDays (0 : Int32).toNatClampNeg (0 : Int32).toNatClampNeg (jmin nb_count (480 : Int32)).toNatClampNeg)
          else none
        else none
      else none
    else none
set_option maxHeartbeats 4000000 in
set_option maxRecDepth 100000 in
theorem k_X0_copyFrom {l : Launch} {D : va_G} {t : Nat → ClassId} {ad : Nat → Nat} {o o2 : Nat} (b_count : Int32) (b_hammers : Nat → Int32) (b_borrowers : Nat → Int32) (b_firstDays : Nat → Int32) (b_lastDays : Nat → Int32) (nb_count : Int32) (nb_hammers : Nat → Int32) (nb_borrowers : Nat → Int32) (nb_firstDays : Nat → Int32) (nb_lastDays : Nat → Int32)  (u : Int32 × (Nat → Int32) × (Nat → Int32) × (Nat → Int32) × (Nat → Int32)) (hf : f_X0_copyFrom b_count b_hammers b_borrowers b_firstDays b_lastDays nb_count nb_hammers nb_borrowers nb_firstDays nb_lastDays = some u) : cm l D (jT t) yX0_copyFrom cX0_copyFrom 3 none { frames := 1, cells := 0, slots := 0, locals := 60 } [.ref (ad o), .ref (ad o2)] (wB t ad o b_count b_hammers b_borrowers b_firstDays b_lastDays ++ (wB t ad o2 nb_count nb_hammers nb_borrowers nb_firstDays nb_lastDays)) (fun v w => v = none ∧ w = wB t ad o u.1 u.2.1 u.2.2.1 u.2.2.2.1 u.2.2.2.2 ++ (wB t ad o2 nb_count nb_hammers nb_borrowers nb_firstDays nb_lastDays)) := by
  refine cm_of RX0 rfl (by decide +kernel) (Nat.le_of_ble_eq_true rfl) (fun X hX hE => ?_)
  change J X 0 0 (wB t ad o b_count b_hammers b_borrowers b_firstDays b_lastDays ++ (wB t ad o2 nb_count nb_hammers nb_borrowers nb_firstDays nb_lastDays)) 0 [(0, .ref (ad o)), (1, .ref (ad o2))] []
  unfold f_X0_copyFrom at hf
  refine j_aload_n hX dX0_copyFrom_0 rfl 1 rfl ?_
  refine j_get hX dX0_copyFrom_1 inX0 0 q85 5 rfl rfl (by decide) rfl rfl ?_
  refine j_sipush hX 480 dX0_copyFrom_4 (by decide) ?_
  refine j_mmin hX q220 dX0_copyFrom_7 (Nat.le_of_ble_eq_true rfl) (by decide) ⟨Nat.le_refl _, Nat.le_refl _⟩ ?_
  refine j_istore_n hX [(2, .int (jmin nb_count (480 : Int32))), (0, .ref (ad o)), (1, .ref (ad o2))] dX0_copyFrom_10 rfl (by decide) rfl ?_
  refine j_iload_n hX dX0_copyFrom_11 rfl 0 rfl ?_
  refine j_if_lt hX 76 dX0_copyFrom_12 (by decide) hf (fun c12 hf => ?_) (fun c12 hf => ?_)
  · cases hf
    exact j_vret hX hE dX0_copyFrom_76 (Nat.le_refl _) (Nat.le_refl _) ⟨rfl, rfl⟩
  · refine j_aload_n hX dX0_copyFrom_15 rfl 1 rfl ?_
    refine j_iload_n hX dX0_copyFrom_16 rfl 0 rfl ?_
    refine j_put hX (wB t ad o (jmin nb_count (480 : Int32)) b_hammers b_borrowers b_firstDays b_lastDays ++ (wB t ad o2 nb_count nb_hammers nb_borrowers nb_firstDays nb_lastDays)) tyX0 dX0_copyFrom_17 inX0 tyX0_ok nmX0 0 q85 0 rfl rfl (by decide) rfl rfl rfl rfl rfl (Nat.le_of_ble_eq_true rfl) rfl ?_
    refine j_aload_n hX dX0_copyFrom_20 rfl 2 rfl ?_
    refine j_get hX dX0_copyFrom_21 inX0 1 q86 5 rfl rfl (by decide) rfl rfl ?_
    refine j_iconst hX 0 dX0_copyFrom_24 (by decide) ?_
    refine j_aload_n hX dX0_copyFrom_25 rfl 1 rfl ?_
    refine j_get hX dX0_copyFrom_26 inX0 1 q86 0 rfl rfl (by decide) rfl rfl ?_
    refine j_iconst hX 0 dX0_copyFrom_29 (by decide) ?_
    refine j_iload_n hX dX0_copyFrom_30 rfl 0 rfl ?_
    refine j_copyi hX (wB t ad o (jmin nb_count (480 : Int32)) (va_cpy nb_hammers b_hammers (0 : Int32).toNatClampNeg (0 : Int32).toNatClampNeg (jmin nb_count (480 : Int32)).toNatClampNeg) b_borrowers b_firstDays b_lastDays ++ (wB t ad o2 nb_count nb_hammers nb_borrowers nb_firstDays nb_lastDays)) q223 dX0_copyFrom_31 6 1 0 rfl rfl rfl rfl rfl hf (Nat.le_of_ble_eq_true rfl) (by decide +kernel) (fun c31 hf => ?_)
    refine j_aload_n hX dX0_copyFrom_34 rfl 2 rfl ?_
    refine j_get hX dX0_copyFrom_35 inX0 2 q87 5 rfl rfl (by decide) rfl rfl ?_
    refine j_iconst hX 0 dX0_copyFrom_38 (by decide) ?_
    refine j_aload_n hX dX0_copyFrom_39 rfl 1 rfl ?_
    refine j_get hX dX0_copyFrom_40 inX0 2 q87 0 rfl rfl (by decide) rfl rfl ?_
    refine j_iconst hX 0 dX0_copyFrom_43 (by decide) ?_
    refine j_iload_n hX dX0_copyFrom_44 rfl 0 rfl ?_
    refine j_copyi hX (wB t ad o (jmin nb_count (480 : Int32)) (va_cpy nb_hammers b_hammers (0 : Int32).toNatClampNeg (0 : Int32).toNatClampNeg (jmin nb_count (480 : Int32)).toNatClampNeg) (va_cpy nb_borrowers b_borrowers (0 : Int32).toNatClampNeg (0 : Int32).toNatClampNeg (jmin nb_count (480 : Int32)).toNatClampNeg) b_firstDays b_lastDays ++ (wB t ad o2 nb_count nb_hammers nb_borrowers nb_firstDays nb_lastDays)) q223 dX0_copyFrom_45 7 2 0 rfl rfl rfl rfl rfl hf (Nat.le_of_ble_eq_true rfl) (by decide +kernel) (fun c45 hf => ?_)
    refine j_aload_n hX dX0_copyFrom_48 rfl 2 rfl ?_
    refine j_get hX dX0_copyFrom_49 inX0 3 q88 5 rfl rfl (by decide) rfl rfl ?_
    refine j_iconst hX 0 dX0_copyFrom_52 (by decide) ?_
    refine j_aload_n hX dX0_copyFrom_53 rfl 1 rfl ?_
    refine j_get hX dX0_copyFrom_54 inX0 3 q88 0 rfl rfl (by decide) rfl rfl ?_
    refine j_iconst hX 0 dX0_copyFrom_57 (by decide) ?_
    refine j_iload_n hX dX0_copyFrom_58 rfl 0 rfl ?_
    refine j_copyi hX (wB t ad o (jmin nb_count (480 : Int32)) (va_cpy nb_hammers b_hammers (0 : Int32).toNatClampNeg (0 : Int32).toNatClampNeg (jmin nb_count (480 : Int32)).toNatClampNeg) (va_cpy nb_borrowers b_borrowers (0 : Int32).toNatClampNeg (0 : Int32).toNatClampNeg (jmin nb_count (480 : Int32)).toNatClampNeg) (va_cpy nb_firstDays b_firstDays (0 : Int32).toNatClampNeg (0 : Int32).toNatClampNeg (jmin nb_count (480 : Int32)).toNatClampNeg) b_lastDays ++ (wB t ad o2 nb_count nb_hammers nb_borrowers nb_firstDays nb_lastDays)) q223 dX0_copyFrom_59 8 3 0 rfl rfl rfl rfl rfl hf (Nat.le_of_ble_eq_true rfl) (by decide +kernel) (fun c59 hf => ?_)
    refine j_aload_n hX dX0_copyFrom_62 rfl 2 rfl ?_
    refine j_get hX dX0_copyFrom_63 inX0 4 q89 5 rfl rfl (by decide) rfl rfl ?_
    refine j_iconst hX 0 dX0_copyFrom_66 (by decide) ?_
    refine j_aload_n hX dX0_copyFrom_67 rfl 1 rfl ?_
    refine j_get hX dX0_copyFrom_68 inX0 4 q89 0 rfl rfl (by decide) rfl rfl ?_
    refine j_iconst hX 0 dX0_copyFrom_71 (by decide) ?_
    refine j_iload_n hX dX0_copyFrom_72 rfl 0 rfl ?_
    refine j_copyi hX (wB t ad o (jmin nb_count (480 : Int32)) (va_cpy nb_hammers b_hammers (0 : Int32).toNatClampNeg (0 : Int32).toNatClampNeg (jmin nb_count (480 : Int32)).toNatClampNeg) (va_cpy nb_borrowers b_borrowers (0 : Int32).toNatClampNeg (0 : Int32).toNatClampNeg (jmin nb_count (480 : Int32)).toNatClampNeg) (va_cpy nb_firstDays b_firstDays (0 : Int32).toNatClampNeg (0 : Int32).toNatClampNeg (jmin nb_count (480 : Int32)).toNatClampNeg) (va_cpy nb_lastDays b_lastDays (0 : Int32).toNatClampNeg (0 : Int32).toNatClampNeg (jmin nb_count (480 : Int32)).toNatClampNeg) ++ (wB t ad o2 nb_count nb_hammers nb_borrowers nb_firstDays nb_lastDays)) q223 dX0_copyFrom_73 9 4 0 rfl rfl rfl rfl rfl hf (Nat.le_of_ble_eq_true rfl) (by decide +kernel) (fun c73 hf => ?_)
    cases hf
    exact j_vret hX hE dX0_copyFrom_76 (Nat.le_refl _) (Nat.le_refl _) ⟨rfl, rfl⟩
-- HammerDepot$Bookings has (I)Z
def f_X0_has (b_count : Int32) (a0 : Int32) : Option (Int32) :=
  if a0 < 0 then
    some 0
  else
    if b_count ≤ a0 then
      some 0
    else
      if 480 ≤ a0 then
        some 0
      else
        some 1
set_option maxHeartbeats 4000000 in
set_option maxRecDepth 100000 in
theorem k_X0_has {l : Launch} {D : va_G} {t : Nat → ClassId} {ad : Nat → Nat} {o : Nat} (b_count : Int32) (b_hammers : Nat → Int32) (b_borrowers : Nat → Int32) (b_firstDays : Nat → Int32) (b_lastDays : Nat → Int32) (a0 : Int32) (u : Int32) (hf : f_X0_has b_count a0 = some u) : cm l D (jT t) yX0_has cX0_has 2 (some FieldType.boolean) { frames := 0, cells := 0, slots := 0, locals := 0 } [.ref (ad o), .int a0] (wB t ad o b_count b_hammers b_borrowers b_firstDays b_lastDays) (fun v w => v = (some (.int u)) ∧ w = wB t ad o b_count b_hammers b_borrowers b_firstDays b_lastDays) := by
  refine cm_of RX0 rfl (by decide +kernel) (Nat.le_of_ble_eq_true rfl) (fun X hX hE => ?_)
  change J X 0 0 (wB t ad o b_count b_hammers b_borrowers b_firstDays b_lastDays) 0 [(0, .ref (ad o)), (1, .int a0)] []
  unfold f_X0_has at hf
  refine j_iload_n hX dX0_has_0 rfl 1 rfl ?_
  refine j_if_lt hX 23 dX0_has_1 (by decide) hf (fun c1 hf => ?_) (fun c1 hf => ?_)
  · refine j_iconst hX 0 dX0_has_23 (by decide) ?_
    cases hf
    exact j_zret hX hE rfl dX0_has_24 (Nat.le_refl _) (Nat.le_refl _) ⟨rfl, rfl⟩
  · refine j_iload_n hX dX0_has_4 rfl 1 rfl ?_
    refine j_aload_n hX dX0_has_5 rfl 0 rfl ?_
    refine j_get hX dX0_has_6 inX0 0 q85 0 rfl rfl (by decide) rfl rfl ?_
    refine j_icmp_ge hX 23 dX0_has_9 (by decide) hf (fun c9 hf => ?_) (fun c9 hf => ?_)
    · refine j_iconst hX 0 dX0_has_23 (by decide) ?_
      cases hf
      exact j_zret hX hE rfl dX0_has_24 (Nat.le_refl _) (Nat.le_refl _) ⟨rfl, rfl⟩
    · refine j_iload_n hX dX0_has_12 rfl 1 rfl ?_
      refine j_sipush hX 480 dX0_has_13 (by decide) ?_
      refine j_icmp_ge hX 23 dX0_has_16 (by decide) hf (fun c16 hf => ?_) (fun c16 hf => ?_)
      · refine j_iconst hX 0 dX0_has_23 (by decide) ?_
        cases hf
        exact j_zret hX hE rfl dX0_has_24 (Nat.le_refl _) (Nat.le_refl _) ⟨rfl, rfl⟩
      · refine j_iconst hX 1 dX0_has_19 (by decide) ?_
        refine j_goto hX 24 dX0_has_20 (by decide) ?_
        cases hf
        exact j_zret hX hE rfl dX0_has_24 (Nat.le_refl _) (Nat.le_refl _) ⟨rfl, rfl⟩
-- HammerDepot$Bookings size ()I
def f_X0_size (b_count : Int32) : Option (Int32) :=
  some b_count
set_option maxHeartbeats 4000000 in
set_option maxRecDepth 100000 in
theorem k_X0_size {l : Launch} {D : va_G} {t : Nat → ClassId} {ad : Nat → Nat} {o : Nat} (b_count : Int32) (b_hammers : Nat → Int32) (b_borrowers : Nat → Int32) (b_firstDays : Nat → Int32) (b_lastDays : Nat → Int32)  (u : Int32) (hf : f_X0_size b_count = some u) : cm l D (jT t) yX0_size cX0_size 1 (some FieldType.int) { frames := 0, cells := 0, slots := 0, locals := 0 } [.ref (ad o)] (wB t ad o b_count b_hammers b_borrowers b_firstDays b_lastDays) (fun v w => v = (some (.int u)) ∧ w = wB t ad o b_count b_hammers b_borrowers b_firstDays b_lastDays) := by
  refine cm_of RX0 rfl (by decide +kernel) (Nat.le_of_ble_eq_true rfl) (fun X hX hE => ?_)
  change J X 0 0 (wB t ad o b_count b_hammers b_borrowers b_firstDays b_lastDays) 0 [(0, .ref (ad o))] []
  unfold f_X0_size at hf
  refine j_aload_n hX dX0_size_0 rfl 0 rfl ?_
  refine j_get hX dX0_size_1 inX0 0 q85 0 rfl rfl (by decide) rfl rfl ?_
  cases hf
  exact j_iret hX hE dX0_size_4 (Nat.le_refl _) (Nat.le_refl _) ⟨rfl, rfl⟩
-- HammerDepot$Bookings hammerOf (I)I
def f_X0_hammerOf (b_count : Int32) (b_hammers : Nat → Int32) (a0 : Int32) : Option (Int32) :=
  Option.bind (f_X0_has b_count a0) (fun u1 =>
    if u1 = 0 then
      some (-1)
    else
      if jin a0 480 = true then
        some (b_hammers (a0).toNatClampNeg)
      else none)
set_option maxHeartbeats 4000000 in
set_option maxRecDepth 100000 in
theorem k_X0_hammerOf {l : Launch} {D : va_G} {t : Nat → ClassId} {ad : Nat → Nat} {o : Nat} (b_count : Int32) (b_hammers : Nat → Int32) (b_borrowers : Nat → Int32) (b_firstDays : Nat → Int32) (b_lastDays : Nat → Int32) (a0 : Int32) (u : Int32) (hf : f_X0_hammerOf b_count b_hammers a0 = some u) : cm l D (jT t) yX0_hammerOf cX0_hammerOf 2 (some FieldType.int) { frames := 1, cells := 0, slots := 0, locals := 21 } [.ref (ad o), .int a0] (wB t ad o b_count b_hammers b_borrowers b_firstDays b_lastDays) (fun v w => v = (some (.int u)) ∧ w = wB t ad o b_count b_hammers b_borrowers b_firstDays b_lastDays) := by
  refine cm_of RX0 rfl (by decide +kernel) (Nat.le_of_ble_eq_true rfl) (fun X hX hE => ?_)
  change J X 0 0 (wB t ad o b_count b_hammers b_borrowers b_firstDays b_lastDays) 0 [(0, .ref (ad o)), (1, .int a0)] []
  unfold f_X0_hammerOf at hf
  refine j_aload_n hX dX0_hammerOf_0 rfl 0 rfl ?_
  refine j_iload_n hX dX0_hammerOf_1 rfl 1 rfl ?_
  obtain ⟨u1, h2, hf⟩ := jbind hf
  refine j_callV (st := []) hX (k_X0_has (l := l) (D := D) (t := t) (ad := ad) (o := o) b_count b_hammers b_borrowers b_firstDays b_lastDays a0 u1 h2) q302 q303 q1918 q6 q304 (n9 := 1) rfl ⟨by decide +kernel, by decide +kernel⟩ 0 rfl rfl rfl dX0_hammerOf_2 (Nat.le_of_ble_eq_true rfl) ⟨Nat.le_refl _, Nat.le_refl _⟩ (fun w : va_W => w) jFr_id rfl rfl (fun v w hvw => ?_)
  obtain ⟨rfl, rfl⟩ := hvw
  change J X 0 0 (wB t ad o b_count b_hammers b_borrowers b_firstDays b_lastDays) 5 [(0, .ref (ad o)), (1, .int a0)] [.int u1]
  refine j_if_eq hX 17 dX0_hammerOf_5 (by decide) hf (fun c5 hf => ?_) (fun c5 hf => ?_)
  · refine j_iconst hX (-1) dX0_hammerOf_17 (by decide) ?_
    cases hf
    exact j_iret hX hE dX0_hammerOf_18 (Nat.le_refl _) (Nat.le_refl _) ⟨rfl, rfl⟩
  · refine j_aload_n hX dX0_hammerOf_8 rfl 0 rfl ?_
    refine j_get hX dX0_hammerOf_9 inX0 1 q86 0 rfl rfl (by decide) rfl rfl ?_
    refine j_iload_n hX dX0_hammerOf_12 rfl 1 rfl ?_
    refine j_iald hX dX0_hammerOf_13 1 0 rfl rfl hf (fun c13 hf => ?_)
    refine j_goto hX 18 dX0_hammerOf_14 (by decide) ?_
    cases hf
    exact j_iret hX hE dX0_hammerOf_18 (Nat.le_refl _) (Nat.le_refl _) ⟨rfl, rfl⟩
-- HammerDepot$Bookings borrowerOf (I)I
def f_X0_borrowerOf (b_count : Int32) (b_borrowers : Nat → Int32) (a0 : Int32) : Option (Int32) :=
  Option.bind (f_X0_has b_count a0) (fun u1 =>
    if u1 = 0 then
      some (-1)
    else
      if jin a0 480 = true then
        some (b_borrowers (a0).toNatClampNeg)
      else none)
set_option maxHeartbeats 4000000 in
set_option maxRecDepth 100000 in
theorem k_X0_borrowerOf {l : Launch} {D : va_G} {t : Nat → ClassId} {ad : Nat → Nat} {o : Nat} (b_count : Int32) (b_hammers : Nat → Int32) (b_borrowers : Nat → Int32) (b_firstDays : Nat → Int32) (b_lastDays : Nat → Int32) (a0 : Int32) (u : Int32) (hf : f_X0_borrowerOf b_count b_borrowers a0 = some u) : cm l D (jT t) yX0_borrowerOf cX0_borrowerOf 2 (some FieldType.int) { frames := 1, cells := 0, slots := 0, locals := 21 } [.ref (ad o), .int a0] (wB t ad o b_count b_hammers b_borrowers b_firstDays b_lastDays) (fun v w => v = (some (.int u)) ∧ w = wB t ad o b_count b_hammers b_borrowers b_firstDays b_lastDays) := by
  refine cm_of RX0 rfl (by decide +kernel) (Nat.le_of_ble_eq_true rfl) (fun X hX hE => ?_)
  change J X 0 0 (wB t ad o b_count b_hammers b_borrowers b_firstDays b_lastDays) 0 [(0, .ref (ad o)), (1, .int a0)] []
  unfold f_X0_borrowerOf at hf
  refine j_aload_n hX dX0_borrowerOf_0 rfl 0 rfl ?_
  refine j_iload_n hX dX0_borrowerOf_1 rfl 1 rfl ?_
  obtain ⟨u1, h2, hf⟩ := jbind hf
  refine j_callV (st := []) hX (k_X0_has (l := l) (D := D) (t := t) (ad := ad) (o := o) b_count b_hammers b_borrowers b_firstDays b_lastDays a0 u1 h2) q302 q303 q1918 q6 q304 (n9 := 1) rfl ⟨by decide +kernel, by decide +kernel⟩ 0 rfl rfl rfl dX0_borrowerOf_2 (Nat.le_of_ble_eq_true rfl) ⟨Nat.le_refl _, Nat.le_refl _⟩ (fun w : va_W => w) jFr_id rfl rfl (fun v w hvw => ?_)
  obtain ⟨rfl, rfl⟩ := hvw
  change J X 0 0 (wB t ad o b_count b_hammers b_borrowers b_firstDays b_lastDays) 5 [(0, .ref (ad o)), (1, .int a0)] [.int u1]
  refine j_if_eq hX 17 dX0_borrowerOf_5 (by decide) hf (fun c5 hf => ?_) (fun c5 hf => ?_)
  · refine j_iconst hX (-1) dX0_borrowerOf_17 (by decide) ?_
    cases hf
    exact j_iret hX hE dX0_borrowerOf_18 (Nat.le_refl _) (Nat.le_refl _) ⟨rfl, rfl⟩
  · refine j_aload_n hX dX0_borrowerOf_8 rfl 0 rfl ?_
    refine j_get hX dX0_borrowerOf_9 inX0 2 q87 0 rfl rfl (by decide) rfl rfl ?_
    refine j_iload_n hX dX0_borrowerOf_12 rfl 1 rfl ?_
    refine j_iald hX dX0_borrowerOf_13 2 0 rfl rfl hf (fun c13 hf => ?_)
    refine j_goto hX 18 dX0_borrowerOf_14 (by decide) ?_
    cases hf
    exact j_iret hX hE dX0_borrowerOf_18 (Nat.le_refl _) (Nat.le_refl _) ⟨rfl, rfl⟩
-- HammerDepot$Bookings lastDayOf (I)I
def f_X0_lastDayOf (b_count : Int32) (b_lastDays : Nat → Int32) (a0 : Int32) : Option (Int32) :=
  Option.bind (f_X0_has b_count a0) (fun u1 =>
    if u1 = 0 then
      some 0
    else
      if jin a0 480 = true then
        some (b_lastDays (a0).toNatClampNeg)
      else none)
set_option maxHeartbeats 4000000 in
set_option maxRecDepth 100000 in
theorem k_X0_lastDayOf {l : Launch} {D : va_G} {t : Nat → ClassId} {ad : Nat → Nat} {o : Nat} (b_count : Int32) (b_hammers : Nat → Int32) (b_borrowers : Nat → Int32) (b_firstDays : Nat → Int32) (b_lastDays : Nat → Int32) (a0 : Int32) (u : Int32) (hf : f_X0_lastDayOf b_count b_lastDays a0 = some u) : cm l D (jT t) yX0_lastDayOf cX0_lastDayOf 2 (some FieldType.int) { frames := 1, cells := 0, slots := 0, locals := 21 } [.ref (ad o), .int a0] (wB t ad o b_count b_hammers b_borrowers b_firstDays b_lastDays) (fun v w => v = (some (.int u)) ∧ w = wB t ad o b_count b_hammers b_borrowers b_firstDays b_lastDays) := by
  refine cm_of RX0 rfl (by decide +kernel) (Nat.le_of_ble_eq_true rfl) (fun X hX hE => ?_)
  change J X 0 0 (wB t ad o b_count b_hammers b_borrowers b_firstDays b_lastDays) 0 [(0, .ref (ad o)), (1, .int a0)] []
  unfold f_X0_lastDayOf at hf
  refine j_aload_n hX dX0_lastDayOf_0 rfl 0 rfl ?_
  refine j_iload_n hX dX0_lastDayOf_1 rfl 1 rfl ?_
  obtain ⟨u1, h2, hf⟩ := jbind hf
  refine j_callV (st := []) hX (k_X0_has (l := l) (D := D) (t := t) (ad := ad) (o := o) b_count b_hammers b_borrowers b_firstDays b_lastDays a0 u1 h2) q302 q303 q1918 q6 q304 (n9 := 1) rfl ⟨by decide +kernel, by decide +kernel⟩ 0 rfl rfl rfl dX0_lastDayOf_2 (Nat.le_of_ble_eq_true rfl) ⟨Nat.le_refl _, Nat.le_refl _⟩ (fun w : va_W => w) jFr_id rfl rfl (fun v w hvw => ?_)
  obtain ⟨rfl, rfl⟩ := hvw
  change J X 0 0 (wB t ad o b_count b_hammers b_borrowers b_firstDays b_lastDays) 5 [(0, .ref (ad o)), (1, .int a0)] [.int u1]
  refine j_if_eq hX 17 dX0_lastDayOf_5 (by decide) hf (fun c5 hf => ?_) (fun c5 hf => ?_)
  · refine j_iconst hX 0 dX0_lastDayOf_17 (by decide) ?_
    cases hf
    exact j_iret hX hE dX0_lastDayOf_18 (Nat.le_refl _) (Nat.le_refl _) ⟨rfl, rfl⟩
  · refine j_aload_n hX dX0_lastDayOf_8 rfl 0 rfl ?_
    refine j_get hX dX0_lastDayOf_9 inX0 4 q89 0 rfl rfl (by decide) rfl rfl ?_
    refine j_iload_n hX dX0_lastDayOf_12 rfl 1 rfl ?_
    refine j_iald hX dX0_lastDayOf_13 4 0 rfl rfl hf (fun c13 hf => ?_)
    refine j_goto hX 18 dX0_lastDayOf_14 (by decide) ?_
    cases hf
    exact j_iret hX hE dX0_lastDayOf_18 (Nat.le_refl _) (Nat.le_refl _) ⟨rfl, rfl⟩
-- HammerDepot$Bookings add (IIII)V
def f_X0_add (b_count : Int32) (b_hammers : Nat → Int32) (b_borrowers : Nat → Int32) (b_firstDays : Nat → Int32) (b_lastDays : Nat → Int32) (a0 : Int32) (a1 : Int32) (a2 : Int32) (a3 : Int32) : Option (Int32 × (Nat → Int32) × (Nat → Int32) × (Nat → Int32) × (Nat → Int32)) :=
  if b_count < 0 then
    some (b_count, b_hammers, b_borrowers, b_firstDays, b_lastDays)
  else
    if b_count < 480 then
      if jin b_count 480 = true then
        if jin b_count 480 = true then
          if jin b_count 480 = true then
            if jin b_count 480 = true then
              some (b_count + 1, upd b_hammers (b_count).toNatClampNeg a0, upd b_borrowers (b_count).toNatClampNeg a1, upd b_firstDays (b_count).toNatClampNeg a2, upd b_lastDays (b_count).toNatClampNeg a3)
            else none
          else none
        else none
      else none
    else
      some (b_count, b_hammers, b_borrowers, b_firstDays, b_lastDays)
set_option maxHeartbeats 4000000 in
set_option maxRecDepth 100000 in
theorem k_X0_add {l : Launch} {D : va_G} {t : Nat → ClassId} {ad : Nat → Nat} {o : Nat} (b_count : Int32) (b_hammers : Nat → Int32) (b_borrowers : Nat → Int32) (b_firstDays : Nat → Int32) (b_lastDays : Nat → Int32) (a0 : Int32) (a1 : Int32) (a2 : Int32) (a3 : Int32) (u : Int32 × (Nat → Int32) × (Nat → Int32) × (Nat → Int32) × (Nat → Int32)) (hf : f_X0_add b_count b_hammers b_borrowers b_firstDays b_lastDays a0 a1 a2 a3 = some u) : cm l D (jT t) yX0_add cX0_add 5 none { frames := 0, cells := 0, slots := 0, locals := 0 } [.ref (ad o), .int a0, .int a1, .int a2, .int a3] (wB t ad o b_count b_hammers b_borrowers b_firstDays b_lastDays) (fun v w => v = none ∧ w = wB t ad o u.1 u.2.1 u.2.2.1 u.2.2.2.1 u.2.2.2.2) := by
  refine cm_of RX0 rfl (by decide +kernel) (Nat.le_of_ble_eq_true rfl) (fun X hX hE => ?_)
  change J X 0 0 (wB t ad o b_count b_hammers b_borrowers b_firstDays b_lastDays) 0 [(0, .ref (ad o)), (1, .int a0), (2, .int a1), (3, .int a2), (4, .int a3)] []
  unfold f_X0_add at hf
  refine j_aload_n hX dX0_add_0 rfl 0 rfl ?_
  refine j_get hX dX0_add_1 inX0 0 q85 0 rfl rfl (by decide) rfl rfl ?_
  refine j_if_lt hX 17 dX0_add_4 (by decide) hf (fun c4 hf => ?_) (fun c4 hf => ?_)
  · cases hf
    exact j_vret hX hE dX0_add_17 (Nat.le_refl _) (Nat.le_refl _) ⟨rfl, rfl⟩
  · refine j_aload_n hX dX0_add_7 rfl 0 rfl ?_
    refine j_get hX dX0_add_8 inX0 0 q85 0 rfl rfl (by decide) rfl rfl ?_
    refine j_sipush hX 480 dX0_add_11 (by decide) ?_
    refine j_icmp_lt hX 18 dX0_add_14 (by decide) hf (fun c14 hf => ?_) (fun c14 hf => ?_)
    · refine j_aload_n hX dX0_add_18 rfl 0 rfl ?_
      refine j_get hX dX0_add_19 inX0 1 q86 0 rfl rfl (by decide) rfl rfl ?_
      refine j_aload_n hX dX0_add_22 rfl 0 rfl ?_
      refine j_get hX dX0_add_23 inX0 0 q85 0 rfl rfl (by decide) rfl rfl ?_
      refine j_iload_n hX dX0_add_26 rfl 1 rfl ?_
      refine j_iast hX (wB t ad o b_count (upd b_hammers (b_count).toNatClampNeg a0) b_borrowers b_firstDays b_lastDays) dX0_add_27 1 0 rfl rfl rfl hf (fun c27 hf => ?_)
      refine j_aload_n hX dX0_add_28 rfl 0 rfl ?_
      refine j_get hX dX0_add_29 inX0 2 q87 0 rfl rfl (by decide) rfl rfl ?_
      refine j_aload_n hX dX0_add_32 rfl 0 rfl ?_
      refine j_get hX dX0_add_33 inX0 0 q85 0 rfl rfl (by decide) rfl rfl ?_
      refine j_iload_n hX dX0_add_36 rfl 2 rfl ?_
      refine j_iast hX (wB t ad o b_count (upd b_hammers (b_count).toNatClampNeg a0) (upd b_borrowers (b_count).toNatClampNeg a1) b_firstDays b_lastDays) dX0_add_37 2 0 rfl rfl rfl hf (fun c37 hf => ?_)
      refine j_aload_n hX dX0_add_38 rfl 0 rfl ?_
      refine j_get hX dX0_add_39 inX0 3 q88 0 rfl rfl (by decide) rfl rfl ?_
      refine j_aload_n hX dX0_add_42 rfl 0 rfl ?_
      refine j_get hX dX0_add_43 inX0 0 q85 0 rfl rfl (by decide) rfl rfl ?_
      refine j_iload_n hX dX0_add_46 rfl 3 rfl ?_
      refine j_iast hX (wB t ad o b_count (upd b_hammers (b_count).toNatClampNeg a0) (upd b_borrowers (b_count).toNatClampNeg a1) (upd b_firstDays (b_count).toNatClampNeg a2) b_lastDays) dX0_add_47 3 0 rfl rfl rfl hf (fun c47 hf => ?_)
      refine j_aload_n hX dX0_add_48 rfl 0 rfl ?_
      refine j_get hX dX0_add_49 inX0 4 q89 0 rfl rfl (by decide) rfl rfl ?_
      refine j_aload_n hX dX0_add_52 rfl 0 rfl ?_
      refine j_get hX dX0_add_53 inX0 0 q85 0 rfl rfl (by decide) rfl rfl ?_
      refine j_iload hX dX0_add_56 4 rfl ?_
      refine j_iast hX (wB t ad o b_count (upd b_hammers (b_count).toNatClampNeg a0) (upd b_borrowers (b_count).toNatClampNeg a1) (upd b_firstDays (b_count).toNatClampNeg a2) (upd b_lastDays (b_count).toNatClampNeg a3)) dX0_add_58 4 0 rfl rfl rfl hf (fun c58 hf => ?_)
      refine j_aload_n hX dX0_add_59 rfl 0 rfl ?_
      refine j_dup hX dX0_add_60 rfl ?_
      refine j_get hX dX0_add_61 inX0 0 q85 0 rfl rfl (by decide) rfl rfl ?_
      refine j_iconst hX 1 dX0_add_64 (by decide) ?_
      refine j_iadd hX dX0_add_65 ?_
      refine j_put hX (wB t ad o (b_count + 1) (upd b_hammers (b_count).toNatClampNeg a0) (upd b_borrowers (b_count).toNatClampNeg a1) (upd b_firstDays (b_count).toNatClampNeg a2) (upd b_lastDays (b_count).toNatClampNeg a3)) tyX0 dX0_add_66 inX0 tyX0_ok nmX0 0 q85 0 rfl rfl (by decide) rfl rfl rfl rfl rfl (Nat.le_of_ble_eq_true rfl) rfl ?_
      cases hf
      exact j_vret hX hE dX0_add_69 (Nat.le_refl _) (Nat.le_refl _) ⟨rfl, rfl⟩
    · cases hf
      exact j_vret hX hE dX0_add_17 (Nat.le_refl _) (Nat.le_refl _) ⟨rfl, rfl⟩
-- HammerDepot$Bookings remove (I)V
def f_X0_remove_L21 (b_count : Int32) : Nat → Int32 → (Nat → Int32) → (Nat → Int32) → (Nat → Int32) → (Nat → Int32) → Option (Int32 × (Nat → Int32) × (Nat → Int32) × (Nat → Int32) × (Nat → Int32))
  | 0, _, _, _, _, _ => none
  | jn + 1, x2, b_hammers, b_borrowers, b_firstDays, b_lastDays =>
    if b_count ≤ x2 then
      some (x2, b_hammers, b_borrowers, b_firstDays, b_lastDays)
    else
      if 480 ≤ (x2 + 1) then
        some (x2, b_hammers, b_borrowers, b_firstDays, b_lastDays)
      else
        if jin (x2 + 1) 480 = true then
          if jin x2 480 = true then
            if jin (x2 + 1) 480 = true then
              if jin x2 480 = true then
                if jin (x2 + 1) 480 = true then
                  if jin x2 480 = true then
                    if jin (x2 + 1) 480 = true then
                      if jin x2 480 = true then
                        f_X0_remove_L21 b_count jn (x2 + 1) (upd b_hammers (x2).toNatClampNeg (b_hammers (x2 + 1).toNatClampNeg)) (upd b_borrowers (x2).toNatClampNeg (b_borrowers (x2 + 1).toNatClampNeg)) (upd b_firstDays (x2).toNatClampNeg (b_firstDays (x2 + 1).toNatClampNeg)) (upd b_lastDays (x2).toNatClampNeg (b_lastDays (x2 + 1).toNatClampNeg))
                      else none
                    else none
                  else none
                else none
              else none
            else none
          else none
        else none
def f_X0_remove (b_count : Int32) (b_hammers : Nat → Int32) (b_borrowers : Nat → Int32) (b_firstDays : Nat → Int32) (b_lastDays : Nat → Int32) (a0 : Int32) : Option (Int32 × (Nat → Int32) × (Nat → Int32) × (Nat → Int32) × (Nat → Int32)) :=
  Option.bind (f_X0_has b_count a0) (fun u1 =>
    if u1 = 0 then
      some (b_count, b_hammers, b_borrowers, b_firstDays, b_lastDays)
    else
      Option.bind (f_X0_remove_L21 (b_count - 1) jFU a0 b_hammers b_borrowers b_firstDays b_lastDays) (fun s4 =>
        some (b_count - 1, s4.2.1, s4.2.2.1, s4.2.2.2.1, s4.2.2.2.2)))
set_option maxHeartbeats 4000000 in
set_option maxRecDepth 100000 in
theorem k_X0_remove_L21 {l : Launch} {D : va_G} {t : Nat → ClassId} {ad : Nat → Nat} {o : Nat} (b_count : Int32) (x1 : Int32) {X : jX} (hX : jOK X l D (jT t) cX0_remove RX0 none { frames := 1, cells := 0, slots := 0, locals := 21 } 3) :
    ∀ (jn : Nat) (x2 : Int32) (b_hammers : Nat → Int32) (b_borrowers : Nat → Int32) (b_firstDays : Nat → Int32) (b_lastDays : Nat → Int32) (u : Int32 × (Nat → Int32) × (Nat → Int32) × (Nat → Int32) × (Nat → Int32)) (hf : f_X0_remove_L21 b_count jn x2 b_hammers b_borrowers b_firstDays b_lastDays = some u) (kx : ∀ s : Int32 × (Nat → Int32) × (Nat → Int32) × (Nat → Int32) × (Nat → Int32), u = s → J X 0 0 (wB t ad o b_count s.2.1 s.2.2.1 s.2.2.2.1 s.2.2.2.2) 100 [(2, .int s.1), (0, .ref (ad o)), (1, .int x1)] []), J X 0 0 (wB t ad o b_count b_hammers b_borrowers b_firstDays b_lastDays) 21 [(2, .int x2), (0, .ref (ad o)), (1, .int x1)] [] := by
  intro jn
  induction jn with
  | zero => intro x2 b_hammers b_borrowers b_firstDays b_lastDays u hf; cases (show (none : Option (Int32 × (Nat → Int32) × (Nat → Int32) × (Nat → Int32) × (Nat → Int32))) = some u from hf)
  | succ jn ih =>
    intro x2 b_hammers b_borrowers b_firstDays b_lastDays u hf kx
    unfold f_X0_remove_L21 at hf
    refine j_iload_n hX dX0_remove_21 rfl 0 rfl ?_
    refine j_aload_n hX dX0_remove_22 rfl 1 rfl ?_
    refine j_get hX dX0_remove_23 inX0 0 q85 0 rfl rfl (by decide) rfl rfl ?_
    refine j_icmp_ge hX 100 dX0_remove_26 (by decide) hf (fun c26 hf => ?_) (fun c26 hf => ?_)
    · cases hf
      exact kx _ rfl
    · refine j_iload_n hX dX0_remove_29 rfl 0 rfl ?_
      refine j_iconst hX 1 dX0_remove_30 (by decide) ?_
      refine j_iadd hX dX0_remove_31 ?_
      refine j_sipush hX 480 dX0_remove_32 (by decide) ?_
      refine j_icmp_ge hX 100 dX0_remove_35 (by decide) hf (fun c35 hf => ?_) (fun c35 hf => ?_)
      · cases hf
        exact kx _ rfl
      · refine j_aload_n hX dX0_remove_38 rfl 1 rfl ?_
        refine j_get hX dX0_remove_39 inX0 1 q86 0 rfl rfl (by decide) rfl rfl ?_
        refine j_iload_n hX dX0_remove_42 rfl 0 rfl ?_
        refine j_aload_n hX dX0_remove_43 rfl 1 rfl ?_
        refine j_get hX dX0_remove_44 inX0 1 q86 0 rfl rfl (by decide) rfl rfl ?_
        refine j_iload_n hX dX0_remove_47 rfl 0 rfl ?_
        refine j_iconst hX 1 dX0_remove_48 (by decide) ?_
        refine j_iadd hX dX0_remove_49 ?_
        refine j_iald hX dX0_remove_50 1 0 rfl rfl hf (fun c50 hf => ?_)
        refine j_iast hX (wB t ad o b_count (upd b_hammers (x2).toNatClampNeg (b_hammers (x2 + 1).toNatClampNeg)) b_borrowers b_firstDays b_lastDays) dX0_remove_51 1 0 rfl rfl rfl hf (fun c51 hf => ?_)
        refine j_aload_n hX dX0_remove_52 rfl 1 rfl ?_
        refine j_get hX dX0_remove_53 inX0 2 q87 0 rfl rfl (by decide) rfl rfl ?_
        refine j_iload_n hX dX0_remove_56 rfl 0 rfl ?_
        refine j_aload_n hX dX0_remove_57 rfl 1 rfl ?_
        refine j_get hX dX0_remove_58 inX0 2 q87 0 rfl rfl (by decide) rfl rfl ?_
        refine j_iload_n hX dX0_remove_61 rfl 0 rfl ?_
        refine j_iconst hX 1 dX0_remove_62 (by decide) ?_
        refine j_iadd hX dX0_remove_63 ?_
        refine j_iald hX dX0_remove_64 2 0 rfl rfl hf (fun c64 hf => ?_)
        refine j_iast hX (wB t ad o b_count (upd b_hammers (x2).toNatClampNeg (b_hammers (x2 + 1).toNatClampNeg)) (upd b_borrowers (x2).toNatClampNeg (b_borrowers (x2 + 1).toNatClampNeg)) b_firstDays b_lastDays) dX0_remove_65 2 0 rfl rfl rfl hf (fun c65 hf => ?_)
        refine j_aload_n hX dX0_remove_66 rfl 1 rfl ?_
        refine j_get hX dX0_remove_67 inX0 3 q88 0 rfl rfl (by decide) rfl rfl ?_
        refine j_iload_n hX dX0_remove_70 rfl 0 rfl ?_
        refine j_aload_n hX dX0_remove_71 rfl 1 rfl ?_
        refine j_get hX dX0_remove_72 inX0 3 q88 0 rfl rfl (by decide) rfl rfl ?_
        refine j_iload_n hX dX0_remove_75 rfl 0 rfl ?_
        refine j_iconst hX 1 dX0_remove_76 (by decide) ?_
        refine j_iadd hX dX0_remove_77 ?_
        refine j_iald hX dX0_remove_78 3 0 rfl rfl hf (fun c78 hf => ?_)
        refine j_iast hX (wB t ad o b_count (upd b_hammers (x2).toNatClampNeg (b_hammers (x2 + 1).toNatClampNeg)) (upd b_borrowers (x2).toNatClampNeg (b_borrowers (x2 + 1).toNatClampNeg)) (upd b_firstDays (x2).toNatClampNeg (b_firstDays (x2 + 1).toNatClampNeg)) b_lastDays) dX0_remove_79 3 0 rfl rfl rfl hf (fun c79 hf => ?_)
        refine j_aload_n hX dX0_remove_80 rfl 1 rfl ?_
        refine j_get hX dX0_remove_81 inX0 4 q89 0 rfl rfl (by decide) rfl rfl ?_
        refine j_iload_n hX dX0_remove_84 rfl 0 rfl ?_
        refine j_aload_n hX dX0_remove_85 rfl 1 rfl ?_
        refine j_get hX dX0_remove_86 inX0 4 q89 0 rfl rfl (by decide) rfl rfl ?_
        refine j_iload_n hX dX0_remove_89 rfl 0 rfl ?_
        refine j_iconst hX 1 dX0_remove_90 (by decide) ?_
        refine j_iadd hX dX0_remove_91 ?_
        refine j_iald hX dX0_remove_92 4 0 rfl rfl hf (fun c92 hf => ?_)
        refine j_iast hX (wB t ad o b_count (upd b_hammers (x2).toNatClampNeg (b_hammers (x2 + 1).toNatClampNeg)) (upd b_borrowers (x2).toNatClampNeg (b_borrowers (x2 + 1).toNatClampNeg)) (upd b_firstDays (x2).toNatClampNeg (b_firstDays (x2 + 1).toNatClampNeg)) (upd b_lastDays (x2).toNatClampNeg (b_lastDays (x2 + 1).toNatClampNeg))) dX0_remove_93 4 0 rfl rfl rfl hf (fun c93 hf => ?_)
        refine j_iinc hX (x2 + 1) [(2, .int (x2 + 1)), (0, .ref (ad o)), (1, .int x1)] dX0_remove_94 0 rfl rfl (by decide) rfl ?_
        refine j_goto hX 21 dX0_remove_97 (by decide) ?_
        exact ih (x2 + 1) (upd b_hammers (x2).toNatClampNeg (b_hammers (x2 + 1).toNatClampNeg)) (upd b_borrowers (x2).toNatClampNeg (b_borrowers (x2 + 1).toNatClampNeg)) (upd b_firstDays (x2).toNatClampNeg (b_firstDays (x2 + 1).toNatClampNeg)) (upd b_lastDays (x2).toNatClampNeg (b_lastDays (x2 + 1).toNatClampNeg)) u hf kx
set_option maxHeartbeats 4000000 in
set_option maxRecDepth 100000 in
theorem k_X0_remove {l : Launch} {D : va_G} {t : Nat → ClassId} {ad : Nat → Nat} {o : Nat} (b_count : Int32) (b_hammers : Nat → Int32) (b_borrowers : Nat → Int32) (b_firstDays : Nat → Int32) (b_lastDays : Nat → Int32) (a0 : Int32) (u : Int32 × (Nat → Int32) × (Nat → Int32) × (Nat → Int32) × (Nat → Int32)) (hf : f_X0_remove b_count b_hammers b_borrowers b_firstDays b_lastDays a0 = some u) : cm l D (jT t) yX0_remove cX0_remove 3 none { frames := 1, cells := 0, slots := 0, locals := 21 } [.ref (ad o), .int a0] (wB t ad o b_count b_hammers b_borrowers b_firstDays b_lastDays) (fun v w => v = none ∧ w = wB t ad o u.1 u.2.1 u.2.2.1 u.2.2.2.1 u.2.2.2.2) := by
  refine cm_of RX0 rfl (by decide +kernel) (Nat.le_of_ble_eq_true rfl) (fun X hX hE => ?_)
  change J X 0 0 (wB t ad o b_count b_hammers b_borrowers b_firstDays b_lastDays) 0 [(0, .ref (ad o)), (1, .int a0)] []
  unfold f_X0_remove at hf
  refine j_aload_n hX dX0_remove_0 rfl 0 rfl ?_
  refine j_iload_n hX dX0_remove_1 rfl 1 rfl ?_
  obtain ⟨u1, h2, hf⟩ := jbind hf
  refine j_callV (st := []) hX (k_X0_has (l := l) (D := D) (t := t) (ad := ad) (o := o) b_count b_hammers b_borrowers b_firstDays b_lastDays a0 u1 h2) q302 q303 q1918 q6 q304 (n9 := 1) rfl ⟨by decide +kernel, by decide +kernel⟩ 0 rfl rfl rfl dX0_remove_2 (Nat.le_of_ble_eq_true rfl) ⟨Nat.le_refl _, Nat.le_refl _⟩ (fun w : va_W => w) jFr_id rfl rfl (fun v w hvw => ?_)
  obtain ⟨rfl, rfl⟩ := hvw
  change J X 0 0 (wB t ad o b_count b_hammers b_borrowers b_firstDays b_lastDays) 5 [(0, .ref (ad o)), (1, .int a0)] [.int u1]
  refine j_if_ne hX 9 dX0_remove_5 (by decide) hf (fun c5 hf => ?_) (fun c5 hf => ?_)
  · refine j_aload_n hX dX0_remove_9 rfl 0 rfl ?_
    refine j_dup hX dX0_remove_10 rfl ?_
    refine j_get hX dX0_remove_11 inX0 0 q85 0 rfl rfl (by decide) rfl rfl ?_
    refine j_iconst hX 1 dX0_remove_14 (by decide) ?_
    refine j_isub hX dX0_remove_15 ?_
    refine j_put hX (wB t ad o (b_count - 1) b_hammers b_borrowers b_firstDays b_lastDays) tyX0 dX0_remove_16 inX0 tyX0_ok nmX0 0 q85 0 rfl rfl (by decide) rfl rfl rfl rfl rfl (Nat.le_of_ble_eq_true rfl) rfl ?_
    refine j_iload_n hX dX0_remove_19 rfl 1 rfl ?_
    refine j_istore_n hX [(2, .int a0), (0, .ref (ad o)), (1, .int a0)] dX0_remove_20 rfl (by decide) rfl ?_
    obtain ⟨s4, h5, hf⟩ := jbind hf
    refine k_X0_remove_L21 (ad := ad) (b_count - 1) a0 hX jFU a0 b_hammers b_borrowers b_firstDays b_lastDays s4 h5 (fun s40 es4 => ?_)
    subst es4
    cases hf
    exact j_vret hX hE dX0_remove_100 (Nat.le_refl _) (Nat.le_refl _) ⟨rfl, rfl⟩
  · cases hf
    exact j_vret hX hE dX0_remove_8 (Nat.le_refl _) (Nat.le_refl _) ⟨rfl, rfl⟩
-- HammerDepot$Bookings countOf (I)I
def f_X0_countOf_L4 (b_count : Int32) (b_hammers : Nat → Int32) (x1 : Int32) : Nat → Int32 → Int32 → Option (Int32 × Int32)
  | 0, _, _ => none
  | jn + 1, x3, x2 =>
    if b_count ≤ x3 then
      some (x3, x2)
    else
      Option.bind (f_X0_has b_count x3) (fun u1 =>
        if u1 = 0 then
          some (x3, x2)
        else
          if jin x3 480 = true then
            if (b_hammers (x3).toNatClampNeg) = x1 then
              f_X0_countOf_L4 b_count b_hammers x1 jn (x3 + 1) (x2 + 1)
            else
              f_X0_countOf_L4 b_count b_hammers x1 jn (x3 + 1) x2
          else none)
def f_X0_countOf (b_count : Int32) (b_hammers : Nat → Int32) (a0 : Int32) : Option (Int32) :=
  Option.bind (f_X0_countOf_L4 b_count b_hammers a0 jFU 0 0) (fun s4 =>
    some s4.2)
set_option maxHeartbeats 4000000 in
set_option maxRecDepth 100000 in
theorem k_X0_countOf_L4 {l : Launch} {D : va_G} {t : Nat → ClassId} {ad : Nat → Nat} {o : Nat} (b_count : Int32) (b_hammers : Nat → Int32) (x1 : Int32) (b_borrowers : Nat → Int32) (b_firstDays : Nat → Int32) (b_lastDays : Nat → Int32) {X : jX} (hX : jOK X l D (jT t) cX0_countOf RX0 (some FieldType.int) { frames := 1, cells := 0, slots := 0, locals := 21 } 4) :
    ∀ (jn : Nat) (x3 : Int32) (x2 : Int32) (u : Int32 × Int32) (hf : f_X0_countOf_L4 b_count b_hammers x1 jn x3 x2 = some u) (kx : ∀ s : Int32 × Int32, u = s → J X 0 0 (wB t ad o b_count b_hammers b_borrowers b_firstDays b_lastDays) 39 [(3, .int s.1), (2, .int s.2), (0, .ref (ad o)), (1, .int x1)] []), J X 0 0 (wB t ad o b_count b_hammers b_borrowers b_firstDays b_lastDays) 4 [(3, .int x3), (2, .int x2), (0, .ref (ad o)), (1, .int x1)] [] := by
  intro jn
  induction jn with
  | zero => intro x3 x2 u hf; cases (show (none : Option (Int32 × Int32)) = some u from hf)
  | succ jn ih =>
    intro x3 x2 u hf kx
    unfold f_X0_countOf_L4 at hf
    refine j_iload_n hX dX0_countOf_4 rfl 0 rfl ?_
    refine j_aload_n hX dX0_countOf_5 rfl 2 rfl ?_
    refine j_get hX dX0_countOf_6 inX0 0 q85 0 rfl rfl (by decide) rfl rfl ?_
    refine j_icmp_ge hX 39 dX0_countOf_9 (by decide) hf (fun c9 hf => ?_) (fun c9 hf => ?_)
    · cases hf
      exact kx _ rfl
    · refine j_aload_n hX dX0_countOf_12 rfl 2 rfl ?_
      refine j_iload_n hX dX0_countOf_13 rfl 0 rfl ?_
      obtain ⟨u1, h2, hf⟩ := jbind hf
      refine j_callV (st := []) hX (k_X0_has (l := l) (D := D) (t := t) (ad := ad) (o := o) b_count b_hammers b_borrowers b_firstDays b_lastDays x3 u1 h2) q302 q303 q1918 q6 q304 (n9 := 1) rfl ⟨by decide +kernel, by decide +kernel⟩ 0 rfl rfl rfl dX0_countOf_14 (Nat.le_of_ble_eq_true rfl) ⟨Nat.le_refl _, Nat.le_refl _⟩ (fun w : va_W => w) jFr_id rfl rfl (fun v w hvw => ?_)
      obtain ⟨rfl, rfl⟩ := hvw
      change J X 0 0 (wB t ad o b_count b_hammers b_borrowers b_firstDays b_lastDays) 17 [(3, .int x3), (2, .int x2), (0, .ref (ad o)), (1, .int x1)] [.int u1]
      refine j_if_eq hX 39 dX0_countOf_17 (by decide) hf (fun c17 hf => ?_) (fun c17 hf => ?_)
      · cases hf
        exact kx _ rfl
      · refine j_aload_n hX dX0_countOf_20 rfl 2 rfl ?_
        refine j_get hX dX0_countOf_21 inX0 1 q86 0 rfl rfl (by decide) rfl rfl ?_
        refine j_iload_n hX dX0_countOf_24 rfl 0 rfl ?_
        refine j_iald hX dX0_countOf_25 1 0 rfl rfl hf (fun c25 hf => ?_)
        refine j_iload_n hX dX0_countOf_26 rfl 3 rfl ?_
        refine j_icmp_ne hX 33 dX0_countOf_27 (by decide) hf (fun c27 hf => ?_) (fun c27 hf => ?_)
        · refine j_iinc hX (x3 + 1) [(3, .int (x3 + 1)), (2, .int x2), (0, .ref (ad o)), (1, .int x1)] dX0_countOf_33 0 rfl rfl (by decide) rfl ?_
          refine j_goto hX 4 dX0_countOf_36 (by decide) ?_
          exact ih (x3 + 1) x2 u hf kx
        · refine j_iinc hX (x2 + 1) [(2, .int (x2 + 1)), (3, .int x3), (0, .ref (ad o)), (1, .int x1)] dX0_countOf_30 1 rfl rfl (by decide) rfl ?_
          refine j_iinc hX (x3 + 1) [(3, .int (x3 + 1)), (2, .int (x2 + 1)), (0, .ref (ad o)), (1, .int x1)] dX0_countOf_33 1 rfl rfl (by decide) rfl ?_
          refine j_goto hX 4 dX0_countOf_36 (by decide) ?_
          exact ih (x3 + 1) (x2 + 1) u hf kx
set_option maxHeartbeats 4000000 in
set_option maxRecDepth 100000 in
theorem k_X0_countOf {l : Launch} {D : va_G} {t : Nat → ClassId} {ad : Nat → Nat} {o : Nat} (b_count : Int32) (b_hammers : Nat → Int32) (b_borrowers : Nat → Int32) (b_firstDays : Nat → Int32) (b_lastDays : Nat → Int32) (a0 : Int32) (u : Int32) (hf : f_X0_countOf b_count b_hammers a0 = some u) : cm l D (jT t) yX0_countOf cX0_countOf 4 (some FieldType.int) { frames := 1, cells := 0, slots := 0, locals := 21 } [.ref (ad o), .int a0] (wB t ad o b_count b_hammers b_borrowers b_firstDays b_lastDays) (fun v w => v = (some (.int u)) ∧ w = wB t ad o b_count b_hammers b_borrowers b_firstDays b_lastDays) := by
  refine cm_of RX0 rfl (by decide +kernel) (Nat.le_of_ble_eq_true rfl) (fun X hX hE => ?_)
  change J X 0 0 (wB t ad o b_count b_hammers b_borrowers b_firstDays b_lastDays) 0 [(0, .ref (ad o)), (1, .int a0)] []
  unfold f_X0_countOf at hf
  refine j_iconst hX 0 dX0_countOf_0 (by decide) ?_
  refine j_istore_n hX [(2, .int 0), (0, .ref (ad o)), (1, .int a0)] dX0_countOf_1 rfl (by decide) rfl ?_
  refine j_iconst hX 0 dX0_countOf_2 (by decide) ?_
  refine j_istore_n hX [(3, .int 0), (2, .int 0), (0, .ref (ad o)), (1, .int a0)] dX0_countOf_3 rfl (by decide) rfl ?_
  obtain ⟨s4, h5, hf⟩ := jbind hf
  refine k_X0_countOf_L4 (ad := ad) b_count b_hammers a0 b_borrowers b_firstDays b_lastDays hX jFU 0 0 s4 h5 (fun s40 es4 => ?_)
  subst es4
  refine j_iload_n hX dX0_countOf_39 rfl 1 rfl ?_
  cases hf
  exact j_iret hX hE dX0_countOf_40 (Nat.le_refl _) (Nat.le_refl _) ⟨rfl, rfl⟩
-- HammerDepot$Bookings meets (III)Z
def f_X0_meets_L3 (b_count : Int32) (b_hammers : Nat → Int32) (b_firstDays : Nat → Int32) (b_lastDays : Nat → Int32) (x1 : Int32) (x2 : Int32) (x3 : Int32) : Nat → Int32 → Option ((Int32) ⊕ (Int32))
  | 0, _ => none
  | jn + 1, x4 =>
    if b_count ≤ x4 then
      some (.inr x4)
    else
      Option.bind (f_X0_has b_count x4) (fun u1 =>
        if u1 = 0 then
          some (.inr x4)
        else
          if jin x4 480 = true then
            if (b_hammers (x4).toNatClampNeg) = x1 then
              if jin x4 480 = true then
                if x3 < (b_firstDays (x4).toNatClampNeg) then
                  f_X0_meets_L3 b_count b_hammers b_firstDays b_lastDays x1 x2 x3 jn (x4 + 1)
                else
                  if jin x4 480 = true then
                    if (b_lastDays (x4).toNatClampNeg) < x2 then
                      f_X0_meets_L3 b_count b_hammers b_firstDays b_lastDays x1 x2 x3 jn (x4 + 1)
                    else
                      some (.inl 1)
                  else none
              else none
            else
              f_X0_meets_L3 b_count b_hammers b_firstDays b_lastDays x1 x2 x3 jn (x4 + 1)
          else none)
def f_X0_meets (b_count : Int32) (b_hammers : Nat → Int32) (b_firstDays : Nat → Int32) (b_lastDays : Nat → Int32) (a0 : Int32) (a1 : Int32) (a2 : Int32) : Option (Int32) :=
  Option.bind (f_X0_meets_L3 b_count b_hammers b_firstDays b_lastDays a0 a1 a2 jFU 0) (fun o3 => Sum.elim (fun r => some r) (fun s4 =>
    some 0) o3)
set_option maxHeartbeats 4000000 in
set_option maxRecDepth 100000 in
theorem k_X0_meets_L3 {l : Launch} {D : va_G} {t : Nat → ClassId} {ad : Nat → Nat} {o : Nat} (b_count : Int32) (b_hammers : Nat → Int32) (b_firstDays : Nat → Int32) (b_lastDays : Nat → Int32) (x1 : Int32) (x2 : Int32) (x3 : Int32) (b_borrowers : Nat → Int32) {X : jX} (hX : jOK X l D (jT t) cX0_meets RX0 (some FieldType.boolean) { frames := 1, cells := 0, slots := 0, locals := 21 } 5) {PP : Option Value → va_W → Prop} (hE : jEnd X PP 0 0) :
    ∀ (jn : Nat) (x4 : Int32) (u : (Int32) ⊕ (Int32)) (hf : f_X0_meets_L3 b_count b_hammers b_firstDays b_lastDays x1 x2 x3 jn x4 = some u) (kx : ∀ s : Int32, u = .inr s → J X 0 0 (wB t ad o b_count b_hammers b_borrowers b_firstDays b_lastDays) 62 [(4, .int s), (0, .ref (ad o)), (1, .int x1), (2, .int x2), (3, .int x3)] []) (kr : ∀ r : Int32, u = .inl r → PP (some (.int r)) (wB t ad o b_count b_hammers b_borrowers b_firstDays b_lastDays)), J X 0 0 (wB t ad o b_count b_hammers b_borrowers b_firstDays b_lastDays) 3 [(4, .int x4), (0, .ref (ad o)), (1, .int x1), (2, .int x2), (3, .int x3)] [] := by
  intro jn
  induction jn with
  | zero => intro x4 u hf; cases (show (none : Option ((Int32) ⊕ (Int32))) = some u from hf)
  | succ jn ih =>
    intro x4 u hf kx kr
    unfold f_X0_meets_L3 at hf
    refine j_iload hX dX0_meets_3 0 rfl ?_
    refine j_aload_n hX dX0_meets_5 rfl 1 rfl ?_
    refine j_get hX dX0_meets_6 inX0 0 q85 0 rfl rfl (by decide) rfl rfl ?_
    refine j_icmp_ge hX 62 dX0_meets_9 (by decide) hf (fun c9 hf => ?_) (fun c9 hf => ?_)
    · cases hf
      exact kx _ rfl
    · refine j_aload_n hX dX0_meets_12 rfl 1 rfl ?_
      refine j_iload hX dX0_meets_13 0 rfl ?_
      obtain ⟨u1, h2, hf⟩ := jbind hf
      refine j_callV (st := []) hX (k_X0_has (l := l) (D := D) (t := t) (ad := ad) (o := o) b_count b_hammers b_borrowers b_firstDays b_lastDays x4 u1 h2) q302 q303 q1918 q6 q304 (n9 := 1) rfl ⟨by decide +kernel, by decide +kernel⟩ 0 rfl rfl rfl dX0_meets_15 (Nat.le_of_ble_eq_true rfl) ⟨Nat.le_refl _, Nat.le_refl _⟩ (fun w : va_W => w) jFr_id rfl rfl (fun v w hvw => ?_)
      obtain ⟨rfl, rfl⟩ := hvw
      change J X 0 0 (wB t ad o b_count b_hammers b_borrowers b_firstDays b_lastDays) 18 [(4, .int x4), (0, .ref (ad o)), (1, .int x1), (2, .int x2), (3, .int x3)] [.int u1]
      refine j_if_eq hX 62 dX0_meets_18 (by decide) hf (fun c18 hf => ?_) (fun c18 hf => ?_)
      · cases hf
        exact kx _ rfl
      · refine j_aload_n hX dX0_meets_21 rfl 1 rfl ?_
        refine j_get hX dX0_meets_22 inX0 1 q86 0 rfl rfl (by decide) rfl rfl ?_
        refine j_iload hX dX0_meets_25 0 rfl ?_
        refine j_iald hX dX0_meets_27 1 0 rfl rfl hf (fun c27 hf => ?_)
        refine j_iload_n hX dX0_meets_28 rfl 2 rfl ?_
        refine j_icmp_ne hX 56 dX0_meets_29 (by decide) hf (fun c29 hf => ?_) (fun c29 hf => ?_)
        · refine j_iinc hX (x4 + 1) [(4, .int (x4 + 1)), (0, .ref (ad o)), (1, .int x1), (2, .int x2), (3, .int x3)] dX0_meets_56 0 rfl rfl (by decide) rfl ?_
          refine j_goto hX 3 dX0_meets_59 (by decide) ?_
          exact ih (x4 + 1) u hf kx kr
        · refine j_aload_n hX dX0_meets_32 rfl 1 rfl ?_
          refine j_get hX dX0_meets_33 inX0 3 q88 0 rfl rfl (by decide) rfl rfl ?_
          refine j_iload hX dX0_meets_36 0 rfl ?_
          refine j_iald hX dX0_meets_38 3 0 rfl rfl hf (fun c38 hf => ?_)
          refine j_iload_n hX dX0_meets_39 rfl 4 rfl ?_
          refine j_icmp_gt hX 56 dX0_meets_40 (by decide) hf (fun c40 hf => ?_) (fun c40 hf => ?_)
          · refine j_iinc hX (x4 + 1) [(4, .int (x4 + 1)), (0, .ref (ad o)), (1, .int x1), (2, .int x2), (3, .int x3)] dX0_meets_56 0 rfl rfl (by decide) rfl ?_
            refine j_goto hX 3 dX0_meets_59 (by decide) ?_
            exact ih (x4 + 1) u hf kx kr
          · refine j_aload_n hX dX0_meets_43 rfl 1 rfl ?_
            refine j_get hX dX0_meets_44 inX0 4 q89 0 rfl rfl (by decide) rfl rfl ?_
            refine j_iload hX dX0_meets_47 0 rfl ?_
            refine j_iald hX dX0_meets_49 4 0 rfl rfl hf (fun c49 hf => ?_)
            refine j_iload_n hX dX0_meets_50 rfl 3 rfl ?_
            refine j_icmp_lt hX 56 dX0_meets_51 (by decide) hf (fun c51 hf => ?_) (fun c51 hf => ?_)
            · refine j_iinc hX (x4 + 1) [(4, .int (x4 + 1)), (0, .ref (ad o)), (1, .int x1), (2, .int x2), (3, .int x3)] dX0_meets_56 0 rfl rfl (by decide) rfl ?_
              refine j_goto hX 3 dX0_meets_59 (by decide) ?_
              exact ih (x4 + 1) u hf kx kr
            · refine j_iconst hX 1 dX0_meets_54 (by decide) ?_
              cases hf
              exact j_zret hX hE rfl dX0_meets_55 (Nat.le_refl _) (Nat.le_refl _) (kr _ rfl)
set_option maxHeartbeats 4000000 in
set_option maxRecDepth 100000 in
theorem k_X0_meets {l : Launch} {D : va_G} {t : Nat → ClassId} {ad : Nat → Nat} {o : Nat} (b_count : Int32) (b_hammers : Nat → Int32) (b_borrowers : Nat → Int32) (b_firstDays : Nat → Int32) (b_lastDays : Nat → Int32) (a0 : Int32) (a1 : Int32) (a2 : Int32) (u : Int32) (hf : f_X0_meets b_count b_hammers b_firstDays b_lastDays a0 a1 a2 = some u) : cm l D (jT t) yX0_meets cX0_meets 5 (some FieldType.boolean) { frames := 1, cells := 0, slots := 0, locals := 21 } [.ref (ad o), .int a0, .int a1, .int a2] (wB t ad o b_count b_hammers b_borrowers b_firstDays b_lastDays) (fun v w => v = (some (.int u)) ∧ w = wB t ad o b_count b_hammers b_borrowers b_firstDays b_lastDays) := by
  refine cm_of RX0 rfl (by decide +kernel) (Nat.le_of_ble_eq_true rfl) (fun X hX hE => ?_)
  change J X 0 0 (wB t ad o b_count b_hammers b_borrowers b_firstDays b_lastDays) 0 [(0, .ref (ad o)), (1, .int a0), (2, .int a1), (3, .int a2)] []
  unfold f_X0_meets at hf
  refine j_iconst hX 0 dX0_meets_0 (by decide) ?_
  refine j_istore hX [(4, .int 0), (0, .ref (ad o)), (1, .int a0), (2, .int a1), (3, .int a2)] dX0_meets_1 (by decide) rfl ?_
  obtain ⟨o3, h5, hf⟩ := jbind hf
  refine k_X0_meets_L3 (ad := ad) b_count b_hammers b_firstDays b_lastDays a0 a1 a2 b_borrowers hX hE jFU 0 o3 h5 (fun s4 es4 => ?_) (fun r er => ?_)
  · subst es4
    have hf := jsum_r hf
    refine j_iconst hX 0 dX0_meets_62 (by decide) ?_
    cases hf
    exact j_zret hX hE rfl dX0_meets_63 (Nat.le_refl _) (Nat.le_refl _) ⟨rfl, rfl⟩
  · subst er
    cases hf
    exact ⟨rfl, rfl⟩
-- HammerDepot$Bookings beginningOn (I)I
def f_X0_beginningOn_L2 (b_count : Int32) (b_firstDays : Nat → Int32) (x1 : Int32) : Nat → Int32 → Option ((Int32) ⊕ (Int32))
  | 0, _ => none
  | jn + 1, x2 =>
    if b_count ≤ x2 then
      some (.inr x2)
    else
      Option.bind (f_X0_has b_count x2) (fun u1 =>
        if u1 = 0 then
          some (.inr x2)
        else
          if jin x2 480 = true then
            if (b_firstDays (x2).toNatClampNeg) = x1 then
              some (.inl x2)
            else
              f_X0_beginningOn_L2 b_count b_firstDays x1 jn (x2 + 1)
          else none)
def f_X0_beginningOn (b_count : Int32) (b_firstDays : Nat → Int32) (a0 : Int32) : Option (Int32) :=
  Option.bind (f_X0_beginningOn_L2 b_count b_firstDays a0 jFU 0) (fun o3 => Sum.elim (fun r => some r) (fun s4 =>
    some (-1)) o3)
set_option maxHeartbeats 4000000 in
set_option maxRecDepth 100000 in
theorem k_X0_beginningOn_L2 {l : Launch} {D : va_G} {t : Nat → ClassId} {ad : Nat → Nat} {o : Nat} (b_count : Int32) (b_firstDays : Nat → Int32) (x1 : Int32) (b_hammers : Nat → Int32) (b_borrowers : Nat → Int32) (b_lastDays : Nat → Int32) {X : jX} (hX : jOK X l D (jT t) cX0_beginningOn RX0 (some FieldType.int) { frames := 1, cells := 0, slots := 0, locals := 21 } 3) {PP : Option Value → va_W → Prop} (hE : jEnd X PP 0 0) :
    ∀ (jn : Nat) (x2 : Int32) (u : (Int32) ⊕ (Int32)) (hf : f_X0_beginningOn_L2 b_count b_firstDays x1 jn x2 = some u) (kx : ∀ s : Int32, u = .inr s → J X 0 0 (wB t ad o b_count b_hammers b_borrowers b_firstDays b_lastDays) 36 [(2, .int s), (0, .ref (ad o)), (1, .int x1)] []) (kr : ∀ r : Int32, u = .inl r → PP (some (.int r)) (wB t ad o b_count b_hammers b_borrowers b_firstDays b_lastDays)), J X 0 0 (wB t ad o b_count b_hammers b_borrowers b_firstDays b_lastDays) 2 [(2, .int x2), (0, .ref (ad o)), (1, .int x1)] [] := by
  intro jn
  induction jn with
  | zero => intro x2 u hf; cases (show (none : Option ((Int32) ⊕ (Int32))) = some u from hf)
  | succ jn ih =>
    intro x2 u hf kx kr
    unfold f_X0_beginningOn_L2 at hf
    refine j_iload_n hX dX0_beginningOn_2 rfl 0 rfl ?_
    refine j_aload_n hX dX0_beginningOn_3 rfl 1 rfl ?_
    refine j_get hX dX0_beginningOn_4 inX0 0 q85 0 rfl rfl (by decide) rfl rfl ?_
    refine j_icmp_ge hX 36 dX0_beginningOn_7 (by decide) hf (fun c7 hf => ?_) (fun c7 hf => ?_)
    · cases hf
      exact kx _ rfl
    · refine j_aload_n hX dX0_beginningOn_10 rfl 1 rfl ?_
      refine j_iload_n hX dX0_beginningOn_11 rfl 0 rfl ?_
      obtain ⟨u1, h2, hf⟩ := jbind hf
      refine j_callV (st := []) hX (k_X0_has (l := l) (D := D) (t := t) (ad := ad) (o := o) b_count b_hammers b_borrowers b_firstDays b_lastDays x2 u1 h2) q302 q303 q1918 q6 q304 (n9 := 1) rfl ⟨by decide +kernel, by decide +kernel⟩ 0 rfl rfl rfl dX0_beginningOn_12 (Nat.le_of_ble_eq_true rfl) ⟨Nat.le_refl _, Nat.le_refl _⟩ (fun w : va_W => w) jFr_id rfl rfl (fun v w hvw => ?_)
      obtain ⟨rfl, rfl⟩ := hvw
      change J X 0 0 (wB t ad o b_count b_hammers b_borrowers b_firstDays b_lastDays) 15 [(2, .int x2), (0, .ref (ad o)), (1, .int x1)] [.int u1]
      refine j_if_eq hX 36 dX0_beginningOn_15 (by decide) hf (fun c15 hf => ?_) (fun c15 hf => ?_)
      · cases hf
        exact kx _ rfl
      · refine j_aload_n hX dX0_beginningOn_18 rfl 1 rfl ?_
        refine j_get hX dX0_beginningOn_19 inX0 3 q88 0 rfl rfl (by decide) rfl rfl ?_
        refine j_iload_n hX dX0_beginningOn_22 rfl 0 rfl ?_
        refine j_iald hX dX0_beginningOn_23 3 0 rfl rfl hf (fun c23 hf => ?_)
        refine j_iload_n hX dX0_beginningOn_24 rfl 2 rfl ?_
        refine j_icmp_ne hX 30 dX0_beginningOn_25 (by decide) hf (fun c25 hf => ?_) (fun c25 hf => ?_)
        · refine j_iinc hX (x2 + 1) [(2, .int (x2 + 1)), (0, .ref (ad o)), (1, .int x1)] dX0_beginningOn_30 0 rfl rfl (by decide) rfl ?_
          refine j_goto hX 2 dX0_beginningOn_33 (by decide) ?_
          exact ih (x2 + 1) u hf kx kr
        · refine j_iload_n hX dX0_beginningOn_28 rfl 0 rfl ?_
          cases hf
          exact j_iret hX hE dX0_beginningOn_29 (Nat.le_refl _) (Nat.le_refl _) (kr _ rfl)
set_option maxHeartbeats 4000000 in
set_option maxRecDepth 100000 in
theorem k_X0_beginningOn {l : Launch} {D : va_G} {t : Nat → ClassId} {ad : Nat → Nat} {o : Nat} (b_count : Int32) (b_hammers : Nat → Int32) (b_borrowers : Nat → Int32) (b_firstDays : Nat → Int32) (b_lastDays : Nat → Int32) (a0 : Int32) (u : Int32) (hf : f_X0_beginningOn b_count b_firstDays a0 = some u) : cm l D (jT t) yX0_beginningOn cX0_beginningOn 3 (some FieldType.int) { frames := 1, cells := 0, slots := 0, locals := 21 } [.ref (ad o), .int a0] (wB t ad o b_count b_hammers b_borrowers b_firstDays b_lastDays) (fun v w => v = (some (.int u)) ∧ w = wB t ad o b_count b_hammers b_borrowers b_firstDays b_lastDays) := by
  refine cm_of RX0 rfl (by decide +kernel) (Nat.le_of_ble_eq_true rfl) (fun X hX hE => ?_)
  change J X 0 0 (wB t ad o b_count b_hammers b_borrowers b_firstDays b_lastDays) 0 [(0, .ref (ad o)), (1, .int a0)] []
  unfold f_X0_beginningOn at hf
  refine j_iconst hX 0 dX0_beginningOn_0 (by decide) ?_
  refine j_istore_n hX [(2, .int 0), (0, .ref (ad o)), (1, .int a0)] dX0_beginningOn_1 rfl (by decide) rfl ?_
  obtain ⟨o3, h5, hf⟩ := jbind hf
  refine k_X0_beginningOn_L2 (ad := ad) b_count b_firstDays a0 b_hammers b_borrowers b_lastDays hX hE jFU 0 o3 h5 (fun s4 es4 => ?_) (fun r er => ?_)
  · subst es4
    have hf := jsum_r hf
    refine j_iconst hX (-1) dX0_beginningOn_36 (by decide) ?_
    cases hf
    exact j_iret hX hE dX0_beginningOn_37 (Nat.le_refl _) (Nat.le_refl _) ⟨rfl, rfl⟩
  · subst er
    cases hf
    exact ⟨rfl, rfl⟩

-- HammerDepot$Hammers copyFrom (LHammerDepot$Hammers;)V
def f_X2_copyFrom (h_count : Int32) (h_pitches : Nat → Int32) (h_wears : Nat → Int32) (h_slots : Nat → Int32) (h_borrowers : Nat → Int32) (h_dueDays : Nat → Int32) (h_contents : Nat → Int32) (nh_count : Int32) (nh_pitches : Nat → Int32) (nh_wears : Nat → Int32) (nh_slots : Nat → Int32) (nh_borrowers : Nat → Int32) (nh_dueDays : Nat → Int32) (nh_contents : Nat → Int32) : Option (Int32 × (Nat → Int32) × (Nat → Int32) × (Nat → Int32) × (Nat → Int32) × (Nat → Int32) × (Nat → Int32)) :=
  if jcp 0 0 12 12 12 = true then
    if jcp 0 0 12 12 12 = true then
      if jcp 0 0 12 12 12 = true then
        if jcp 0 0 12 12 12 = true then
          if jcp 0 0 12 12 12 = true then
            if jcp 0 0 18 18 18 = true then
              some (nh_count, va_cpy nh_pitches h_pitches (0 : Int32).toNatClampNeg (0 : Int32).toNatClampNeg (12 : Int32).toNatClampNeg, va_cpy nh_wears h_wears (0 : Int32).toNatClampNeg (0 : Int32).toNatClampNeg (12 : Int32).toNatClampNeg, va_cpy nh_slots h_slots (0 : Int32).toNatClampNeg (0 : Int32).toNatClampNeg (12 : Int32).toNatClampNeg, va_cpy nh_borrowers h_borrowers (0 : Int32).toNatClampNeg (0 : Int32).toNatClampNeg (12 : Int32).toNatClampNeg, va_cpy nh_dueDays h_dueDays (0 : Int32).toNatClampNeg (0 : Int32).toNatClampNeg (12 : Int32).toNatClampNeg, va_cpy nh_contents h_contents (0 : Int32).toNatClampNeg (0 : Int32).toNatClampNeg (18 : Int32).toNatClampNeg)
            else none
          else none
        else none
      else none
    else none
  else none
set_option maxHeartbeats 4000000 in
set_option maxRecDepth 100000 in
theorem k_X2_copyFrom {l : Launch} {D : va_G} {t : Nat → ClassId} {ad : Nat → Nat} {o o2 : Nat} (h_count : Int32) (h_pitches : Nat → Int32) (h_wears : Nat → Int32) (h_slots : Nat → Int32) (h_borrowers : Nat → Int32) (h_dueDays : Nat → Int32) (h_contents : Nat → Int32) (nh_count : Int32) (nh_pitches : Nat → Int32) (nh_wears : Nat → Int32) (nh_slots : Nat → Int32) (nh_borrowers : Nat → Int32) (nh_dueDays : Nat → Int32) (nh_contents : Nat → Int32)  (u : Int32 × (Nat → Int32) × (Nat → Int32) × (Nat → Int32) × (Nat → Int32) × (Nat → Int32) × (Nat → Int32)) (hf : f_X2_copyFrom h_count h_pitches h_wears h_slots h_borrowers h_dueDays h_contents nh_count nh_pitches nh_wears nh_slots nh_borrowers nh_dueDays nh_contents = some u) : cm l D (jT t) yX2_copyFrom cX2_copyFrom 2 none { frames := 1, cells := 0, slots := 0, locals := 60 } [.ref (ad o), .ref (ad o2)] (wH t ad o h_count h_pitches h_wears h_slots h_borrowers h_dueDays h_contents ++ (wH t ad o2 nh_count nh_pitches nh_wears nh_slots nh_borrowers nh_dueDays nh_contents)) (fun v w => v = none ∧ w = wH t ad o u.1 u.2.1 u.2.2.1 u.2.2.2.1 u.2.2.2.2.1 u.2.2.2.2.2.1 u.2.2.2.2.2.2 ++ (wH t ad o2 nh_count nh_pitches nh_wears nh_slots nh_borrowers nh_dueDays nh_contents)) := by
  refine cm_of RX2 rfl (by decide +kernel) (Nat.le_of_ble_eq_true rfl) (fun X hX hE => ?_)
  change J X 0 0 (wH t ad o h_count h_pitches h_wears h_slots h_borrowers h_dueDays h_contents ++ (wH t ad o2 nh_count nh_pitches nh_wears nh_slots nh_borrowers nh_dueDays nh_contents)) 0 [(0, .ref (ad o)), (1, .ref (ad o2))] []
  unfold f_X2_copyFrom at hf
  refine j_aload_n hX dX2_copyFrom_0 rfl 0 rfl ?_
  refine j_aload_n hX dX2_copyFrom_1 rfl 1 rfl ?_
  refine j_get hX dX2_copyFrom_2 inX2 0 q58 7 rfl rfl (by decide) rfl rfl ?_
  refine j_put hX (wH t ad o nh_count h_pitches h_wears h_slots h_borrowers h_dueDays h_contents ++ (wH t ad o2 nh_count nh_pitches nh_wears nh_slots nh_borrowers nh_dueDays nh_contents)) tyX2 dX2_copyFrom_5 inX2 tyX2_ok nmX2 0 q58 0 rfl rfl (by decide) rfl rfl rfl rfl rfl (Nat.le_of_ble_eq_true rfl) rfl ?_
  refine j_aload_n hX dX2_copyFrom_8 rfl 1 rfl ?_
  refine j_get hX dX2_copyFrom_9 inX2 1 q59 7 rfl rfl (by decide) rfl rfl ?_
  refine j_iconst hX 0 dX2_copyFrom_12 (by decide) ?_
  refine j_aload_n hX dX2_copyFrom_13 rfl 0 rfl ?_
  refine j_get hX dX2_copyFrom_14 inX2 1 q59 0 rfl rfl (by decide) rfl rfl ?_
  refine j_iconst hX 0 dX2_copyFrom_17 (by decide) ?_
  refine j_bipush hX 12 dX2_copyFrom_18 (by decide) ?_
  refine j_copyi hX (wH t ad o nh_count (va_cpy nh_pitches h_pitches (0 : Int32).toNatClampNeg (0 : Int32).toNatClampNeg (12 : Int32).toNatClampNeg) h_wears h_slots h_borrowers h_dueDays h_contents ++ (wH t ad o2 nh_count nh_pitches nh_wears nh_slots nh_borrowers nh_dueDays nh_contents)) q208 dX2_copyFrom_20 8 1 0 rfl rfl rfl rfl rfl hf (Nat.le_of_ble_eq_true rfl) (by decide +kernel) (fun c20 hf => ?_)
  refine j_aload_n hX dX2_copyFrom_23 rfl 1 rfl ?_
  refine j_get hX dX2_copyFrom_24 inX2 2 q60 7 rfl rfl (by decide) rfl rfl ?_
  refine j_iconst hX 0 dX2_copyFrom_27 (by decide) ?_
  refine j_aload_n hX dX2_copyFrom_28 rfl 0 rfl ?_
  refine j_get hX dX2_copyFrom_29 inX2 2 q60 0 rfl rfl (by decide) rfl rfl ?_
  refine j_iconst hX 0 dX2_copyFrom_32 (by decide) ?_
  refine j_bipush hX 12 dX2_copyFrom_33 (by decide) ?_
  refine j_copyi hX (wH t ad o nh_count (va_cpy nh_pitches h_pitches (0 : Int32).toNatClampNeg (0 : Int32).toNatClampNeg (12 : Int32).toNatClampNeg) (va_cpy nh_wears h_wears (0 : Int32).toNatClampNeg (0 : Int32).toNatClampNeg (12 : Int32).toNatClampNeg) h_slots h_borrowers h_dueDays h_contents ++ (wH t ad o2 nh_count nh_pitches nh_wears nh_slots nh_borrowers nh_dueDays nh_contents)) q208 dX2_copyFrom_35 9 2 0 rfl rfl rfl rfl rfl hf (Nat.le_of_ble_eq_true rfl) (by decide +kernel) (fun c35 hf => ?_)
  refine j_aload_n hX dX2_copyFrom_38 rfl 1 rfl ?_
  refine j_get hX dX2_copyFrom_39 inX2 3 q61 7 rfl rfl (by decide) rfl rfl ?_
  refine j_iconst hX 0 dX2_copyFrom_42 (by decide) ?_
  refine j_aload_n hX dX2_copyFrom_43 rfl 0 rfl ?_
  refine j_get hX dX2_copyFrom_44 inX2 3 q61 0 rfl rfl (by decide) rfl rfl ?_
  refine j_iconst hX 0 dX2_copyFrom_47 (by decide) ?_
  refine j_bipush hX 12 dX2_copyFrom_48 (by decide) ?_
  refine j_copyi hX (wH t ad o nh_count (va_cpy nh_pitches h_pitches (0 : Int32).toNatClampNeg (0 : Int32).toNatClampNeg (12 : Int32).toNatClampNeg) (va_cpy nh_wears h_wears (0 : Int32).toNatClampNeg (0 : Int32).toNatClampNeg (12 : Int32).toNatClampNeg) (va_cpy nh_slots h_slots (0 : Int32).toNatClampNeg (0 : Int32).toNatClampNeg (12 : Int32).toNatClampNeg) h_borrowers h_dueDays h_contents ++ (wH t ad o2 nh_count nh_pitches nh_wears nh_slots nh_borrowers nh_dueDays nh_contents)) q208 dX2_copyFrom_50 10 3 0 rfl rfl rfl rfl rfl hf (Nat.le_of_ble_eq_true rfl) (by decide +kernel) (fun c50 hf => ?_)
  refine j_aload_n hX dX2_copyFrom_53 rfl 1 rfl ?_
  refine j_get hX dX2_copyFrom_54 inX2 4 q62 7 rfl rfl (by decide) rfl rfl ?_
  refine j_iconst hX 0 dX2_copyFrom_57 (by decide) ?_
  refine j_aload_n hX dX2_copyFrom_58 rfl 0 rfl ?_
  refine j_get hX dX2_copyFrom_59 inX2 4 q62 0 rfl rfl (by decide) rfl rfl ?_
  refine j_iconst hX 0 dX2_copyFrom_62 (by decide) ?_
  refine j_bipush hX 12 dX2_copyFrom_63 (by decide) ?_
  refine j_copyi hX (wH t ad o nh_count (va_cpy nh_pitches h_pitches (0 : Int32).toNatClampNeg (0 : Int32).toNatClampNeg (12 : Int32).toNatClampNeg) (va_cpy nh_wears h_wears (0 : Int32).toNatClampNeg (0 : Int32).toNatClampNeg (12 : Int32).toNatClampNeg) (va_cpy nh_slots h_slots (0 : Int32).toNatClampNeg (0 : Int32).toNatClampNeg (12 : Int32).toNatClampNeg) (va_cpy nh_borrowers h_borrowers (0 : Int32).toNatClampNeg (0 : Int32).toNatClampNeg (12 : Int32).toNatClampNeg) h_dueDays h_contents ++ (wH t ad o2 nh_count nh_pitches nh_wears nh_slots nh_borrowers nh_dueDays nh_contents)) q208 dX2_copyFrom_65 11 4 0 rfl rfl rfl rfl rfl hf (Nat.le_of_ble_eq_true rfl) (by decide +kernel) (fun c65 hf => ?_)
  refine j_aload_n hX dX2_copyFrom_68 rfl 1 rfl ?_
  refine j_get hX dX2_copyFrom_69 inX2 5 q63 7 rfl rfl (by decide) rfl rfl ?_
  refine j_iconst hX 0 dX2_copyFrom_72 (by decide) ?_
  refine j_aload_n hX dX2_copyFrom_73 rfl 0 rfl ?_
  refine j_get hX dX2_copyFrom_74 inX2 5 q63 0 rfl rfl (by decide) rfl rfl ?_
  refine j_iconst hX 0 dX2_copyFrom_77 (by decide) ?_
  refine j_bipush hX 12 dX2_copyFrom_78 (by decide) ?_
  refine j_copyi hX (wH t ad o nh_count (va_cpy nh_pitches h_pitches (0 : Int32).toNatClampNeg (0 : Int32).toNatClampNeg (12 : Int32).toNatClampNeg) (va_cpy nh_wears h_wears (0 : Int32).toNatClampNeg (0 : Int32).toNatClampNeg (12 : Int32).toNatClampNeg) (va_cpy nh_slots h_slots (0 : Int32).toNatClampNeg (0 : Int32).toNatClampNeg (12 : Int32).toNatClampNeg) (va_cpy nh_borrowers h_borrowers (0 : Int32).toNatClampNeg (0 : Int32).toNatClampNeg (12 : Int32).toNatClampNeg) (va_cpy nh_dueDays h_dueDays (0 : Int32).toNatClampNeg (0 : Int32).toNatClampNeg (12 : Int32).toNatClampNeg) h_contents ++ (wH t ad o2 nh_count nh_pitches nh_wears nh_slots nh_borrowers nh_dueDays nh_contents)) q208 dX2_copyFrom_80 12 5 0 rfl rfl rfl rfl rfl hf (Nat.le_of_ble_eq_true rfl) (by decide +kernel) (fun c80 hf => ?_)
  refine j_aload_n hX dX2_copyFrom_83 rfl 1 rfl ?_
  refine j_get hX dX2_copyFrom_84 inX2 6 q64 7 rfl rfl (by decide) rfl rfl ?_
  refine j_iconst hX 0 dX2_copyFrom_87 (by decide) ?_
  refine j_aload_n hX dX2_copyFrom_88 rfl 0 rfl ?_
  refine j_get hX dX2_copyFrom_89 inX2 6 q64 0 rfl rfl (by decide) rfl rfl ?_
  refine j_iconst hX 0 dX2_copyFrom_92 (by decide) ?_
  refine j_bipush hX 18 dX2_copyFrom_93 (by decide) ?_
  refine j_copyi hX (wH t ad o nh_count (va_cpy nh_pitches h_pitches (0 : Int32).toNatClampNeg (0 : Int32).toNatClampNeg (12 : Int32).toNatClampNeg) (va_cpy nh_wears h_wears (0 : Int32).toNatClampNeg (0 : Int32).toNatClampNeg (12 : Int32).toNatClampNeg) (va_cpy nh_slots h_slots (0 : Int32).toNatClampNeg (0 : Int32).toNatClampNeg (12 : Int32).toNatClampNeg) (va_cpy nh_borrowers h_borrowers (0 : Int32).toNatClampNeg (0 : Int32).toNatClampNeg (12 : Int32).toNatClampNeg) (va_cpy nh_dueDays h_dueDays (0 : Int32).toNatClampNeg (0 : Int32).toNatClampNeg (12 : Int32).toNatClampNeg) (va_cpy nh_contents h_contents (0 : Int32).toNatClampNeg (0 : Int32).toNatClampNeg (18 : Int32).toNatClampNeg) ++ (wH t ad o2 nh_count nh_pitches nh_wears nh_slots nh_borrowers nh_dueDays nh_contents)) q208 dX2_copyFrom_95 13 6 0 rfl rfl rfl rfl rfl hf (Nat.le_of_ble_eq_true rfl) (by decide +kernel) (fun c95 hf => ?_)
  cases hf
  exact j_vret hX hE dX2_copyFrom_98 (Nat.le_refl _) (Nat.le_refl _) ⟨rfl, rfl⟩
-- HammerDepot$Hammers size ()I
def f_X2_size (h_count : Int32) : Option (Int32) :=
  some h_count
set_option maxHeartbeats 4000000 in
set_option maxRecDepth 100000 in
theorem k_X2_size {l : Launch} {D : va_G} {t : Nat → ClassId} {ad : Nat → Nat} {o : Nat} (h_count : Int32) (h_pitches : Nat → Int32) (h_wears : Nat → Int32) (h_slots : Nat → Int32) (h_borrowers : Nat → Int32) (h_dueDays : Nat → Int32) (h_contents : Nat → Int32)  (u : Int32) (hf : f_X2_size h_count = some u) : cm l D (jT t) yX2_size cX2_size 1 (some FieldType.int) { frames := 0, cells := 0, slots := 0, locals := 0 } [.ref (ad o)] (wH t ad o h_count h_pitches h_wears h_slots h_borrowers h_dueDays h_contents) (fun v w => v = (some (.int u)) ∧ w = wH t ad o h_count h_pitches h_wears h_slots h_borrowers h_dueDays h_contents) := by
  refine cm_of RX2 rfl (by decide +kernel) (Nat.le_of_ble_eq_true rfl) (fun X hX hE => ?_)
  change J X 0 0 (wH t ad o h_count h_pitches h_wears h_slots h_borrowers h_dueDays h_contents) 0 [(0, .ref (ad o))] []
  unfold f_X2_size at hf
  refine j_aload_n hX dX2_size_0 rfl 0 rfl ?_
  refine j_get hX dX2_size_1 inX2 0 q58 0 rfl rfl (by decide) rfl rfl ?_
  cases hf
  exact j_iret hX hE dX2_size_4 (Nat.le_refl _) (Nat.le_refl _) ⟨rfl, rfl⟩
-- HammerDepot$Hammers isFull ()Z
def f_X2_isFull (h_count : Int32) : Option (Int32) :=
  if h_count < 12 then
    some 0
  else
    some 1
set_option maxHeartbeats 4000000 in
set_option maxRecDepth 100000 in
theorem k_X2_isFull {l : Launch} {D : va_G} {t : Nat → ClassId} {ad : Nat → Nat} {o : Nat} (h_count : Int32) (h_pitches : Nat → Int32) (h_wears : Nat → Int32) (h_slots : Nat → Int32) (h_borrowers : Nat → Int32) (h_dueDays : Nat → Int32) (h_contents : Nat → Int32)  (u : Int32) (hf : f_X2_isFull h_count = some u) : cm l D (jT t) yX2_isFull cX2_isFull 1 (some FieldType.boolean) { frames := 0, cells := 0, slots := 0, locals := 0 } [.ref (ad o)] (wH t ad o h_count h_pitches h_wears h_slots h_borrowers h_dueDays h_contents) (fun v w => v = (some (.int u)) ∧ w = wH t ad o h_count h_pitches h_wears h_slots h_borrowers h_dueDays h_contents) := by
  refine cm_of RX2 rfl (by decide +kernel) (Nat.le_of_ble_eq_true rfl) (fun X hX hE => ?_)
  change J X 0 0 (wH t ad o h_count h_pitches h_wears h_slots h_borrowers h_dueDays h_contents) 0 [(0, .ref (ad o))] []
  unfold f_X2_isFull at hf
  refine j_aload_n hX dX2_isFull_0 rfl 0 rfl ?_
  refine j_get hX dX2_isFull_1 inX2 0 q58 0 rfl rfl (by decide) rfl rfl ?_
  refine j_bipush hX 12 dX2_isFull_4 (by decide) ?_
  refine j_icmp_lt hX 13 dX2_isFull_6 (by decide) hf (fun c6 hf => ?_) (fun c6 hf => ?_)
  · refine j_iconst hX 0 dX2_isFull_13 (by decide) ?_
    cases hf
    exact j_zret hX hE rfl dX2_isFull_14 (Nat.le_refl _) (Nat.le_refl _) ⟨rfl, rfl⟩
  · refine j_iconst hX 1 dX2_isFull_9 (by decide) ?_
    refine j_goto hX 14 dX2_isFull_10 (by decide) ?_
    cases hf
    exact j_zret hX hE rfl dX2_isFull_14 (Nat.le_refl _) (Nat.le_refl _) ⟨rfl, rfl⟩
-- HammerDepot$Hammers has (I)Z
def f_X2_has (h_count : Int32) (a0 : Int32) : Option (Int32) :=
  if a0 < 0 then
    some 0
  else
    if h_count ≤ a0 then
      some 0
    else
      if 12 ≤ a0 then
        some 0
      else
        some 1
set_option maxHeartbeats 4000000 in
set_option maxRecDepth 100000 in
theorem k_X2_has {l : Launch} {D : va_G} {t : Nat → ClassId} {ad : Nat → Nat} {o : Nat} (h_count : Int32) (h_pitches : Nat → Int32) (h_wears : Nat → Int32) (h_slots : Nat → Int32) (h_borrowers : Nat → Int32) (h_dueDays : Nat → Int32) (h_contents : Nat → Int32) (a0 : Int32) (u : Int32) (hf : f_X2_has h_count a0 = some u) : cm l D (jT t) yX2_has cX2_has 2 (some FieldType.boolean) { frames := 0, cells := 0, slots := 0, locals := 0 } [.ref (ad o), .int a0] (wH t ad o h_count h_pitches h_wears h_slots h_borrowers h_dueDays h_contents) (fun v w => v = (some (.int u)) ∧ w = wH t ad o h_count h_pitches h_wears h_slots h_borrowers h_dueDays h_contents) := by
  refine cm_of RX2 rfl (by decide +kernel) (Nat.le_of_ble_eq_true rfl) (fun X hX hE => ?_)
  change J X 0 0 (wH t ad o h_count h_pitches h_wears h_slots h_borrowers h_dueDays h_contents) 0 [(0, .ref (ad o)), (1, .int a0)] []
  unfold f_X2_has at hf
  refine j_iload_n hX dX2_has_0 rfl 1 rfl ?_
  refine j_if_lt hX 22 dX2_has_1 (by decide) hf (fun c1 hf => ?_) (fun c1 hf => ?_)
  · refine j_iconst hX 0 dX2_has_22 (by decide) ?_
    cases hf
    exact j_zret hX hE rfl dX2_has_23 (Nat.le_refl _) (Nat.le_refl _) ⟨rfl, rfl⟩
  · refine j_iload_n hX dX2_has_4 rfl 1 rfl ?_
    refine j_aload_n hX dX2_has_5 rfl 0 rfl ?_
    refine j_get hX dX2_has_6 inX2 0 q58 0 rfl rfl (by decide) rfl rfl ?_
    refine j_icmp_ge hX 22 dX2_has_9 (by decide) hf (fun c9 hf => ?_) (fun c9 hf => ?_)
    · refine j_iconst hX 0 dX2_has_22 (by decide) ?_
      cases hf
      exact j_zret hX hE rfl dX2_has_23 (Nat.le_refl _) (Nat.le_refl _) ⟨rfl, rfl⟩
    · refine j_iload_n hX dX2_has_12 rfl 1 rfl ?_
      refine j_bipush hX 12 dX2_has_13 (by decide) ?_
      refine j_icmp_ge hX 22 dX2_has_15 (by decide) hf (fun c15 hf => ?_) (fun c15 hf => ?_)
      · refine j_iconst hX 0 dX2_has_22 (by decide) ?_
        cases hf
        exact j_zret hX hE rfl dX2_has_23 (Nat.le_refl _) (Nat.le_refl _) ⟨rfl, rfl⟩
      · refine j_iconst hX 1 dX2_has_18 (by decide) ?_
        refine j_goto hX 23 dX2_has_19 (by decide) ?_
        cases hf
        exact j_zret hX hE rfl dX2_has_23 (Nat.le_refl _) (Nat.le_refl _) ⟨rfl, rfl⟩
-- HammerDepot$Hammers pitchOf (I)I
def f_X2_pitchOf (h_count : Int32) (h_pitches : Nat → Int32) (a0 : Int32) : Option (Int32) :=
  Option.bind (f_X2_has h_count a0) (fun u1 =>
    if u1 = 0 then
      some 0
    else
      if jin a0 12 = true then
        some (h_pitches (a0).toNatClampNeg)
      else none)
set_option maxHeartbeats 4000000 in
set_option maxRecDepth 100000 in
theorem k_X2_pitchOf {l : Launch} {D : va_G} {t : Nat → ClassId} {ad : Nat → Nat} {o : Nat} (h_count : Int32) (h_pitches : Nat → Int32) (h_wears : Nat → Int32) (h_slots : Nat → Int32) (h_borrowers : Nat → Int32) (h_dueDays : Nat → Int32) (h_contents : Nat → Int32) (a0 : Int32) (u : Int32) (hf : f_X2_pitchOf h_count h_pitches a0 = some u) : cm l D (jT t) yX2_pitchOf cX2_pitchOf 2 (some FieldType.int) { frames := 1, cells := 0, slots := 0, locals := 21 } [.ref (ad o), .int a0] (wH t ad o h_count h_pitches h_wears h_slots h_borrowers h_dueDays h_contents) (fun v w => v = (some (.int u)) ∧ w = wH t ad o h_count h_pitches h_wears h_slots h_borrowers h_dueDays h_contents) := by
  refine cm_of RX2 rfl (by decide +kernel) (Nat.le_of_ble_eq_true rfl) (fun X hX hE => ?_)
  change J X 0 0 (wH t ad o h_count h_pitches h_wears h_slots h_borrowers h_dueDays h_contents) 0 [(0, .ref (ad o)), (1, .int a0)] []
  unfold f_X2_pitchOf at hf
  refine j_aload_n hX dX2_pitchOf_0 rfl 0 rfl ?_
  refine j_iload_n hX dX2_pitchOf_1 rfl 1 rfl ?_
  obtain ⟨u1, h2, hf⟩ := jbind hf
  refine j_callV (st := []) hX (k_X2_has (l := l) (D := D) (t := t) (ad := ad) (o := o) h_count h_pitches h_wears h_slots h_borrowers h_dueDays h_contents a0 u1 h2) q270 q263 q264 q3 q265 (n9 := 1) rfl ⟨by decide +kernel, by decide +kernel⟩ 0 rfl rfl rfl dX2_pitchOf_2 (Nat.le_of_ble_eq_true rfl) ⟨Nat.le_refl _, Nat.le_refl _⟩ (fun w : va_W => w) jFr_id rfl rfl (fun v w hvw => ?_)
  obtain ⟨rfl, rfl⟩ := hvw
  change J X 0 0 (wH t ad o h_count h_pitches h_wears h_slots h_borrowers h_dueDays h_contents) 5 [(0, .ref (ad o)), (1, .int a0)] [.int u1]
  refine j_if_eq hX 17 dX2_pitchOf_5 (by decide) hf (fun c5 hf => ?_) (fun c5 hf => ?_)
  · refine j_iconst hX 0 dX2_pitchOf_17 (by decide) ?_
    cases hf
    exact j_iret hX hE dX2_pitchOf_18 (Nat.le_refl _) (Nat.le_refl _) ⟨rfl, rfl⟩
  · refine j_aload_n hX dX2_pitchOf_8 rfl 0 rfl ?_
    refine j_get hX dX2_pitchOf_9 inX2 1 q59 0 rfl rfl (by decide) rfl rfl ?_
    refine j_iload_n hX dX2_pitchOf_12 rfl 1 rfl ?_
    refine j_iald hX dX2_pitchOf_13 1 0 rfl rfl hf (fun c13 hf => ?_)
    refine j_goto hX 18 dX2_pitchOf_14 (by decide) ?_
    cases hf
    exact j_iret hX hE dX2_pitchOf_18 (Nat.le_refl _) (Nat.le_refl _) ⟨rfl, rfl⟩
-- HammerDepot$Hammers wearOf (I)I
def f_X2_wearOf (h_count : Int32) (h_wears : Nat → Int32) (a0 : Int32) : Option (Int32) :=
  Option.bind (f_X2_has h_count a0) (fun u1 =>
    if u1 = 0 then
      some 0
    else
      if jin a0 12 = true then
        some (h_wears (a0).toNatClampNeg)
      else none)
set_option maxHeartbeats 4000000 in
set_option maxRecDepth 100000 in
theorem k_X2_wearOf {l : Launch} {D : va_G} {t : Nat → ClassId} {ad : Nat → Nat} {o : Nat} (h_count : Int32) (h_pitches : Nat → Int32) (h_wears : Nat → Int32) (h_slots : Nat → Int32) (h_borrowers : Nat → Int32) (h_dueDays : Nat → Int32) (h_contents : Nat → Int32) (a0 : Int32) (u : Int32) (hf : f_X2_wearOf h_count h_wears a0 = some u) : cm l D (jT t) yX2_wearOf cX2_wearOf 2 (some FieldType.int) { frames := 1, cells := 0, slots := 0, locals := 21 } [.ref (ad o), .int a0] (wH t ad o h_count h_pitches h_wears h_slots h_borrowers h_dueDays h_contents) (fun v w => v = (some (.int u)) ∧ w = wH t ad o h_count h_pitches h_wears h_slots h_borrowers h_dueDays h_contents) := by
  refine cm_of RX2 rfl (by decide +kernel) (Nat.le_of_ble_eq_true rfl) (fun X hX hE => ?_)
  change J X 0 0 (wH t ad o h_count h_pitches h_wears h_slots h_borrowers h_dueDays h_contents) 0 [(0, .ref (ad o)), (1, .int a0)] []
  unfold f_X2_wearOf at hf
  refine j_aload_n hX dX2_wearOf_0 rfl 0 rfl ?_
  refine j_iload_n hX dX2_wearOf_1 rfl 1 rfl ?_
  obtain ⟨u1, h2, hf⟩ := jbind hf
  refine j_callV (st := []) hX (k_X2_has (l := l) (D := D) (t := t) (ad := ad) (o := o) h_count h_pitches h_wears h_slots h_borrowers h_dueDays h_contents a0 u1 h2) q270 q263 q264 q3 q265 (n9 := 1) rfl ⟨by decide +kernel, by decide +kernel⟩ 0 rfl rfl rfl dX2_wearOf_2 (Nat.le_of_ble_eq_true rfl) ⟨Nat.le_refl _, Nat.le_refl _⟩ (fun w : va_W => w) jFr_id rfl rfl (fun v w hvw => ?_)
  obtain ⟨rfl, rfl⟩ := hvw
  change J X 0 0 (wH t ad o h_count h_pitches h_wears h_slots h_borrowers h_dueDays h_contents) 5 [(0, .ref (ad o)), (1, .int a0)] [.int u1]
  refine j_if_eq hX 17 dX2_wearOf_5 (by decide) hf (fun c5 hf => ?_) (fun c5 hf => ?_)
  · refine j_iconst hX 0 dX2_wearOf_17 (by decide) ?_
    cases hf
    exact j_iret hX hE dX2_wearOf_18 (Nat.le_refl _) (Nat.le_refl _) ⟨rfl, rfl⟩
  · refine j_aload_n hX dX2_wearOf_8 rfl 0 rfl ?_
    refine j_get hX dX2_wearOf_9 inX2 2 q60 0 rfl rfl (by decide) rfl rfl ?_
    refine j_iload_n hX dX2_wearOf_12 rfl 1 rfl ?_
    refine j_iald hX dX2_wearOf_13 2 0 rfl rfl hf (fun c13 hf => ?_)
    refine j_goto hX 18 dX2_wearOf_14 (by decide) ?_
    cases hf
    exact j_iret hX hE dX2_wearOf_18 (Nat.le_refl _) (Nat.le_refl _) ⟨rfl, rfl⟩
-- HammerDepot$Hammers setWear (II)V
def f_X2_setWear (h_count : Int32) (h_wears : Nat → Int32) (a0 : Int32) (a1 : Int32) : Option ((Nat → Int32)) :=
  Option.bind (f_X2_has h_count a0) (fun u1 =>
    if u1 = 0 then
      some h_wears
    else
      if jin a0 12 = true then
        some (upd h_wears (a0).toNatClampNeg a1)
      else none)
set_option maxHeartbeats 4000000 in
set_option maxRecDepth 100000 in
theorem k_X2_setWear {l : Launch} {D : va_G} {t : Nat → ClassId} {ad : Nat → Nat} {o : Nat} (h_count : Int32) (h_pitches : Nat → Int32) (h_wears : Nat → Int32) (h_slots : Nat → Int32) (h_borrowers : Nat → Int32) (h_dueDays : Nat → Int32) (h_contents : Nat → Int32) (a0 : Int32) (a1 : Int32) (u : (Nat → Int32)) (hf : f_X2_setWear h_count h_wears a0 a1 = some u) : cm l D (jT t) yX2_setWear cX2_setWear 3 none { frames := 1, cells := 0, slots := 0, locals := 21 } [.ref (ad o), .int a0, .int a1] (wH t ad o h_count h_pitches h_wears h_slots h_borrowers h_dueDays h_contents) (fun v w => v = none ∧ w = wH t ad o h_count h_pitches u h_slots h_borrowers h_dueDays h_contents) := by
  refine cm_of RX2 rfl (by decide +kernel) (Nat.le_of_ble_eq_true rfl) (fun X hX hE => ?_)
  change J X 0 0 (wH t ad o h_count h_pitches h_wears h_slots h_borrowers h_dueDays h_contents) 0 [(0, .ref (ad o)), (1, .int a0), (2, .int a1)] []
  unfold f_X2_setWear at hf
  refine j_aload_n hX dX2_setWear_0 rfl 0 rfl ?_
  refine j_iload_n hX dX2_setWear_1 rfl 1 rfl ?_
  obtain ⟨u1, h2, hf⟩ := jbind hf
  refine j_callV (st := []) hX (k_X2_has (l := l) (D := D) (t := t) (ad := ad) (o := o) h_count h_pitches h_wears h_slots h_borrowers h_dueDays h_contents a0 u1 h2) q270 q263 q264 q3 q265 (n9 := 1) rfl ⟨by decide +kernel, by decide +kernel⟩ 0 rfl rfl rfl dX2_setWear_2 (Nat.le_of_ble_eq_true rfl) ⟨Nat.le_refl _, Nat.le_refl _⟩ (fun w : va_W => w) jFr_id rfl rfl (fun v w hvw => ?_)
  obtain ⟨rfl, rfl⟩ := hvw
  change J X 0 0 (wH t ad o h_count h_pitches h_wears h_slots h_borrowers h_dueDays h_contents) 5 [(0, .ref (ad o)), (1, .int a0), (2, .int a1)] [.int u1]
  refine j_if_eq hX 15 dX2_setWear_5 (by decide) hf (fun c5 hf => ?_) (fun c5 hf => ?_)
  · cases hf
    exact j_vret hX hE dX2_setWear_15 (Nat.le_refl _) (Nat.le_refl _) ⟨rfl, rfl⟩
  · refine j_aload_n hX dX2_setWear_8 rfl 0 rfl ?_
    refine j_get hX dX2_setWear_9 inX2 2 q60 0 rfl rfl (by decide) rfl rfl ?_
    refine j_iload_n hX dX2_setWear_12 rfl 1 rfl ?_
    refine j_iload_n hX dX2_setWear_13 rfl 2 rfl ?_
    refine j_iast hX (wH t ad o h_count h_pitches (upd h_wears (a0).toNatClampNeg a1) h_slots h_borrowers h_dueDays h_contents) dX2_setWear_14 2 0 rfl rfl rfl hf (fun c14 hf => ?_)
    cases hf
    exact j_vret hX hE dX2_setWear_15 (Nat.le_refl _) (Nat.le_refl _) ⟨rfl, rfl⟩
-- HammerDepot$Hammers slotOf (I)I
def f_X2_slotOf (h_count : Int32) (h_slots : Nat → Int32) (a0 : Int32) : Option (Int32) :=
  Option.bind (f_X2_has h_count a0) (fun u1 =>
    if u1 = 0 then
      some (-1)
    else
      if jin a0 12 = true then
        some (h_slots (a0).toNatClampNeg)
      else none)
set_option maxHeartbeats 4000000 in
set_option maxRecDepth 100000 in
theorem k_X2_slotOf {l : Launch} {D : va_G} {t : Nat → ClassId} {ad : Nat → Nat} {o : Nat} (h_count : Int32) (h_pitches : Nat → Int32) (h_wears : Nat → Int32) (h_slots : Nat → Int32) (h_borrowers : Nat → Int32) (h_dueDays : Nat → Int32) (h_contents : Nat → Int32) (a0 : Int32) (u : Int32) (hf : f_X2_slotOf h_count h_slots a0 = some u) : cm l D (jT t) yX2_slotOf cX2_slotOf 2 (some FieldType.int) { frames := 1, cells := 0, slots := 0, locals := 21 } [.ref (ad o), .int a0] (wH t ad o h_count h_pitches h_wears h_slots h_borrowers h_dueDays h_contents) (fun v w => v = (some (.int u)) ∧ w = wH t ad o h_count h_pitches h_wears h_slots h_borrowers h_dueDays h_contents) := by
  refine cm_of RX2 rfl (by decide +kernel) (Nat.le_of_ble_eq_true rfl) (fun X hX hE => ?_)
  change J X 0 0 (wH t ad o h_count h_pitches h_wears h_slots h_borrowers h_dueDays h_contents) 0 [(0, .ref (ad o)), (1, .int a0)] []
  unfold f_X2_slotOf at hf
  refine j_aload_n hX dX2_slotOf_0 rfl 0 rfl ?_
  refine j_iload_n hX dX2_slotOf_1 rfl 1 rfl ?_
  obtain ⟨u1, h2, hf⟩ := jbind hf
  refine j_callV (st := []) hX (k_X2_has (l := l) (D := D) (t := t) (ad := ad) (o := o) h_count h_pitches h_wears h_slots h_borrowers h_dueDays h_contents a0 u1 h2) q270 q263 q264 q3 q265 (n9 := 1) rfl ⟨by decide +kernel, by decide +kernel⟩ 0 rfl rfl rfl dX2_slotOf_2 (Nat.le_of_ble_eq_true rfl) ⟨Nat.le_refl _, Nat.le_refl _⟩ (fun w : va_W => w) jFr_id rfl rfl (fun v w hvw => ?_)
  obtain ⟨rfl, rfl⟩ := hvw
  change J X 0 0 (wH t ad o h_count h_pitches h_wears h_slots h_borrowers h_dueDays h_contents) 5 [(0, .ref (ad o)), (1, .int a0)] [.int u1]
  refine j_if_eq hX 17 dX2_slotOf_5 (by decide) hf (fun c5 hf => ?_) (fun c5 hf => ?_)
  · refine j_iconst hX (-1) dX2_slotOf_17 (by decide) ?_
    cases hf
    exact j_iret hX hE dX2_slotOf_18 (Nat.le_refl _) (Nat.le_refl _) ⟨rfl, rfl⟩
  · refine j_aload_n hX dX2_slotOf_8 rfl 0 rfl ?_
    refine j_get hX dX2_slotOf_9 inX2 3 q61 0 rfl rfl (by decide) rfl rfl ?_
    refine j_iload_n hX dX2_slotOf_12 rfl 1 rfl ?_
    refine j_iald hX dX2_slotOf_13 3 0 rfl rfl hf (fun c13 hf => ?_)
    refine j_goto hX 18 dX2_slotOf_14 (by decide) ?_
    cases hf
    exact j_iret hX hE dX2_slotOf_18 (Nat.le_refl _) (Nat.le_refl _) ⟨rfl, rfl⟩
-- HammerDepot$Hammers isAway (I)Z
def f_X2_isAway (h_count : Int32) (h_slots : Nat → Int32) (a0 : Int32) : Option (Int32) :=
  Option.bind (f_X2_has h_count a0) (fun u1 =>
    if u1 = 0 then
      some 0
    else
      if jin a0 12 = true then
        if (h_slots (a0).toNatClampNeg) = (-1) then
          some 1
        else
          some 0
      else none)
set_option maxHeartbeats 4000000 in
set_option maxRecDepth 100000 in
theorem k_X2_isAway {l : Launch} {D : va_G} {t : Nat → ClassId} {ad : Nat → Nat} {o : Nat} (h_count : Int32) (h_pitches : Nat → Int32) (h_wears : Nat → Int32) (h_slots : Nat → Int32) (h_borrowers : Nat → Int32) (h_dueDays : Nat → Int32) (h_contents : Nat → Int32) (a0 : Int32) (u : Int32) (hf : f_X2_isAway h_count h_slots a0 = some u) : cm l D (jT t) yX2_isAway cX2_isAway 2 (some FieldType.boolean) { frames := 1, cells := 0, slots := 0, locals := 21 } [.ref (ad o), .int a0] (wH t ad o h_count h_pitches h_wears h_slots h_borrowers h_dueDays h_contents) (fun v w => v = (some (.int u)) ∧ w = wH t ad o h_count h_pitches h_wears h_slots h_borrowers h_dueDays h_contents) := by
  refine cm_of RX2 rfl (by decide +kernel) (Nat.le_of_ble_eq_true rfl) (fun X hX hE => ?_)
  change J X 0 0 (wH t ad o h_count h_pitches h_wears h_slots h_borrowers h_dueDays h_contents) 0 [(0, .ref (ad o)), (1, .int a0)] []
  unfold f_X2_isAway at hf
  refine j_aload_n hX dX2_isAway_0 rfl 0 rfl ?_
  refine j_iload_n hX dX2_isAway_1 rfl 1 rfl ?_
  obtain ⟨u1, h2, hf⟩ := jbind hf
  refine j_callV (st := []) hX (k_X2_has (l := l) (D := D) (t := t) (ad := ad) (o := o) h_count h_pitches h_wears h_slots h_borrowers h_dueDays h_contents a0 u1 h2) q270 q263 q264 q3 q265 (n9 := 1) rfl ⟨by decide +kernel, by decide +kernel⟩ 0 rfl rfl rfl dX2_isAway_2 (Nat.le_of_ble_eq_true rfl) ⟨Nat.le_refl _, Nat.le_refl _⟩ (fun w : va_W => w) jFr_id rfl rfl (fun v w hvw => ?_)
  obtain ⟨rfl, rfl⟩ := hvw
  change J X 0 0 (wH t ad o h_count h_pitches h_wears h_slots h_borrowers h_dueDays h_contents) 5 [(0, .ref (ad o)), (1, .int a0)] [.int u1]
  refine j_if_eq hX 22 dX2_isAway_5 (by decide) hf (fun c5 hf => ?_) (fun c5 hf => ?_)
  · refine j_iconst hX 0 dX2_isAway_22 (by decide) ?_
    cases hf
    exact j_zret hX hE rfl dX2_isAway_23 (Nat.le_refl _) (Nat.le_refl _) ⟨rfl, rfl⟩
  · refine j_aload_n hX dX2_isAway_8 rfl 0 rfl ?_
    refine j_get hX dX2_isAway_9 inX2 3 q61 0 rfl rfl (by decide) rfl rfl ?_
    refine j_iload_n hX dX2_isAway_12 rfl 1 rfl ?_
    refine j_iald hX dX2_isAway_13 3 0 rfl rfl hf (fun c13 hf => ?_)
    refine j_iconst hX (-1) dX2_isAway_14 (by decide) ?_
    refine j_icmp_ne hX 22 dX2_isAway_15 (by decide) hf (fun c15 hf => ?_) (fun c15 hf => ?_)
    · refine j_iconst hX 0 dX2_isAway_22 (by decide) ?_
      cases hf
      exact j_zret hX hE rfl dX2_isAway_23 (Nat.le_refl _) (Nat.le_refl _) ⟨rfl, rfl⟩
    · refine j_iconst hX 1 dX2_isAway_18 (by decide) ?_
      refine j_goto hX 23 dX2_isAway_19 (by decide) ?_
      cases hf
      exact j_zret hX hE rfl dX2_isAway_23 (Nat.le_refl _) (Nat.le_refl _) ⟨rfl, rfl⟩
-- HammerDepot$Hammers borrowerOf (I)I
def f_X2_borrowerOf (h_count : Int32) (h_borrowers : Nat → Int32) (a0 : Int32) : Option (Int32) :=
  Option.bind (f_X2_has h_count a0) (fun u1 =>
    if u1 = 0 then
      some (-1)
    else
      if jin a0 12 = true then
        some (h_borrowers (a0).toNatClampNeg)
      else none)
set_option maxHeartbeats 4000000 in
set_option maxRecDepth 100000 in
theorem k_X2_borrowerOf {l : Launch} {D : va_G} {t : Nat → ClassId} {ad : Nat → Nat} {o : Nat} (h_count : Int32) (h_pitches : Nat → Int32) (h_wears : Nat → Int32) (h_slots : Nat → Int32) (h_borrowers : Nat → Int32) (h_dueDays : Nat → Int32) (h_contents : Nat → Int32) (a0 : Int32) (u : Int32) (hf : f_X2_borrowerOf h_count h_borrowers a0 = some u) : cm l D (jT t) yX2_borrowerOf cX2_borrowerOf 2 (some FieldType.int) { frames := 1, cells := 0, slots := 0, locals := 21 } [.ref (ad o), .int a0] (wH t ad o h_count h_pitches h_wears h_slots h_borrowers h_dueDays h_contents) (fun v w => v = (some (.int u)) ∧ w = wH t ad o h_count h_pitches h_wears h_slots h_borrowers h_dueDays h_contents) := by
  refine cm_of RX2 rfl (by decide +kernel) (Nat.le_of_ble_eq_true rfl) (fun X hX hE => ?_)
  change J X 0 0 (wH t ad o h_count h_pitches h_wears h_slots h_borrowers h_dueDays h_contents) 0 [(0, .ref (ad o)), (1, .int a0)] []
  unfold f_X2_borrowerOf at hf
  refine j_aload_n hX dX2_borrowerOf_0 rfl 0 rfl ?_
  refine j_iload_n hX dX2_borrowerOf_1 rfl 1 rfl ?_
  obtain ⟨u1, h2, hf⟩ := jbind hf
  refine j_callV (st := []) hX (k_X2_has (l := l) (D := D) (t := t) (ad := ad) (o := o) h_count h_pitches h_wears h_slots h_borrowers h_dueDays h_contents a0 u1 h2) q270 q263 q264 q3 q265 (n9 := 1) rfl ⟨by decide +kernel, by decide +kernel⟩ 0 rfl rfl rfl dX2_borrowerOf_2 (Nat.le_of_ble_eq_true rfl) ⟨Nat.le_refl _, Nat.le_refl _⟩ (fun w : va_W => w) jFr_id rfl rfl (fun v w hvw => ?_)
  obtain ⟨rfl, rfl⟩ := hvw
  change J X 0 0 (wH t ad o h_count h_pitches h_wears h_slots h_borrowers h_dueDays h_contents) 5 [(0, .ref (ad o)), (1, .int a0)] [.int u1]
  refine j_if_eq hX 17 dX2_borrowerOf_5 (by decide) hf (fun c5 hf => ?_) (fun c5 hf => ?_)
  · refine j_iconst hX (-1) dX2_borrowerOf_17 (by decide) ?_
    cases hf
    exact j_iret hX hE dX2_borrowerOf_18 (Nat.le_refl _) (Nat.le_refl _) ⟨rfl, rfl⟩
  · refine j_aload_n hX dX2_borrowerOf_8 rfl 0 rfl ?_
    refine j_get hX dX2_borrowerOf_9 inX2 4 q62 0 rfl rfl (by decide) rfl rfl ?_
    refine j_iload_n hX dX2_borrowerOf_12 rfl 1 rfl ?_
    refine j_iald hX dX2_borrowerOf_13 4 0 rfl rfl hf (fun c13 hf => ?_)
    refine j_goto hX 18 dX2_borrowerOf_14 (by decide) ?_
    cases hf
    exact j_iret hX hE dX2_borrowerOf_18 (Nat.le_refl _) (Nat.le_refl _) ⟨rfl, rfl⟩
-- HammerDepot$Hammers dueDayOf (I)I
def f_X2_dueDayOf (h_count : Int32) (h_dueDays : Nat → Int32) (a0 : Int32) : Option (Int32) :=
  Option.bind (f_X2_has h_count a0) (fun u1 =>
    if u1 = 0 then
      some (-1)
    else
      if jin a0 12 = true then
        some (h_dueDays (a0).toNatClampNeg)
      else none)
set_option maxHeartbeats 4000000 in
set_option maxRecDepth 100000 in
theorem k_X2_dueDayOf {l : Launch} {D : va_G} {t : Nat → ClassId} {ad : Nat → Nat} {o : Nat} (h_count : Int32) (h_pitches : Nat → Int32) (h_wears : Nat → Int32) (h_slots : Nat → Int32) (h_borrowers : Nat → Int32) (h_dueDays : Nat → Int32) (h_contents : Nat → Int32) (a0 : Int32) (u : Int32) (hf : f_X2_dueDayOf h_count h_dueDays a0 = some u) : cm l D (jT t) yX2_dueDayOf cX2_dueDayOf 2 (some FieldType.int) { frames := 1, cells := 0, slots := 0, locals := 21 } [.ref (ad o), .int a0] (wH t ad o h_count h_pitches h_wears h_slots h_borrowers h_dueDays h_contents) (fun v w => v = (some (.int u)) ∧ w = wH t ad o h_count h_pitches h_wears h_slots h_borrowers h_dueDays h_contents) := by
  refine cm_of RX2 rfl (by decide +kernel) (Nat.le_of_ble_eq_true rfl) (fun X hX hE => ?_)
  change J X 0 0 (wH t ad o h_count h_pitches h_wears h_slots h_borrowers h_dueDays h_contents) 0 [(0, .ref (ad o)), (1, .int a0)] []
  unfold f_X2_dueDayOf at hf
  refine j_aload_n hX dX2_dueDayOf_0 rfl 0 rfl ?_
  refine j_iload_n hX dX2_dueDayOf_1 rfl 1 rfl ?_
  obtain ⟨u1, h2, hf⟩ := jbind hf
  refine j_callV (st := []) hX (k_X2_has (l := l) (D := D) (t := t) (ad := ad) (o := o) h_count h_pitches h_wears h_slots h_borrowers h_dueDays h_contents a0 u1 h2) q270 q263 q264 q3 q265 (n9 := 1) rfl ⟨by decide +kernel, by decide +kernel⟩ 0 rfl rfl rfl dX2_dueDayOf_2 (Nat.le_of_ble_eq_true rfl) ⟨Nat.le_refl _, Nat.le_refl _⟩ (fun w : va_W => w) jFr_id rfl rfl (fun v w hvw => ?_)
  obtain ⟨rfl, rfl⟩ := hvw
  change J X 0 0 (wH t ad o h_count h_pitches h_wears h_slots h_borrowers h_dueDays h_contents) 5 [(0, .ref (ad o)), (1, .int a0)] [.int u1]
  refine j_if_eq hX 17 dX2_dueDayOf_5 (by decide) hf (fun c5 hf => ?_) (fun c5 hf => ?_)
  · refine j_iconst hX (-1) dX2_dueDayOf_17 (by decide) ?_
    cases hf
    exact j_iret hX hE dX2_dueDayOf_18 (Nat.le_refl _) (Nat.le_refl _) ⟨rfl, rfl⟩
  · refine j_aload_n hX dX2_dueDayOf_8 rfl 0 rfl ?_
    refine j_get hX dX2_dueDayOf_9 inX2 5 q63 0 rfl rfl (by decide) rfl rfl ?_
    refine j_iload_n hX dX2_dueDayOf_12 rfl 1 rfl ?_
    refine j_iald hX dX2_dueDayOf_13 5 0 rfl rfl hf (fun c13 hf => ?_)
    refine j_goto hX 18 dX2_dueDayOf_14 (by decide) ?_
    cases hf
    exact j_iret hX hE dX2_dueDayOf_18 (Nat.le_refl _) (Nat.le_refl _) ⟨rfl, rfl⟩
-- HammerDepot isRack (I)Z
def f_X9_isRack (a0 : Int32) : Option (Int32) :=
  if a0 < 0 then
    some 0
  else
    if 3 ≤ a0 then
      some 0
    else
      some 1
set_option maxHeartbeats 4000000 in
set_option maxRecDepth 100000 in
theorem k_X9_isRack {l : Launch} {D : va_G} {t : Nat → ClassId} {ad : Nat → Nat}  (a0 : Int32) (u : Int32) (hf : f_X9_isRack a0 = some u) : cm l D (jT t) yX9_isRack cX9_isRack 1 (some FieldType.boolean) { frames := 0, cells := 0, slots := 0, locals := 0 } [.int a0] ([]) (fun v w => v = (some (.int u)) ∧ w = []) := by
  refine cm_of RX9 rfl (by decide +kernel) (Nat.le_of_ble_eq_true rfl) (fun X hX hE => ?_)
  change J X 0 0 ([]) 0 [(0, .int a0)] []
  unfold f_X9_isRack at hf
  refine j_iload_n hX dX9_isRack_0 rfl 0 rfl ?_
  refine j_if_lt hX 13 dX9_isRack_1 (by decide) hf (fun c1 hf => ?_) (fun c1 hf => ?_)
  · refine j_iconst hX 0 dX9_isRack_13 (by decide) ?_
    cases hf
    exact j_zret hX hE rfl dX9_isRack_14 (Nat.le_refl _) (Nat.le_refl _) ⟨rfl, rfl⟩
  · refine j_iload_n hX dX9_isRack_4 rfl 0 rfl ?_
    refine j_iconst hX 3 dX9_isRack_5 (by decide) ?_
    refine j_icmp_ge hX 13 dX9_isRack_6 (by decide) hf (fun c6 hf => ?_) (fun c6 hf => ?_)
    · refine j_iconst hX 0 dX9_isRack_13 (by decide) ?_
      cases hf
      exact j_zret hX hE rfl dX9_isRack_14 (Nat.le_refl _) (Nat.le_refl _) ⟨rfl, rfl⟩
    · refine j_iconst hX 1 dX9_isRack_9 (by decide) ?_
      refine j_goto hX 14 dX9_isRack_10 (by decide) ?_
      cases hf
      exact j_zret hX hE rfl dX9_isRack_14 (Nat.le_refl _) (Nat.le_refl _) ⟨rfl, rfl⟩
-- HammerDepot isPlace (I)Z
def f_X9_isPlace (a0 : Int32) : Option (Int32) :=
  if a0 < 0 then
    some 0
  else
    if 6 ≤ a0 then
      some 0
    else
      some 1
set_option maxHeartbeats 4000000 in
set_option maxRecDepth 100000 in
theorem k_X9_isPlace {l : Launch} {D : va_G} {t : Nat → ClassId} {ad : Nat → Nat}  (a0 : Int32) (u : Int32) (hf : f_X9_isPlace a0 = some u) : cm l D (jT t) yX9_isPlace cX9_isPlace 1 (some FieldType.boolean) { frames := 0, cells := 0, slots := 0, locals := 0 } [.int a0] ([]) (fun v w => v = (some (.int u)) ∧ w = []) := by
  refine cm_of RX9 rfl (by decide +kernel) (Nat.le_of_ble_eq_true rfl) (fun X hX hE => ?_)
  change J X 0 0 ([]) 0 [(0, .int a0)] []
  unfold f_X9_isPlace at hf
  refine j_iload_n hX dX9_isPlace_0 rfl 0 rfl ?_
  refine j_if_lt hX 14 dX9_isPlace_1 (by decide) hf (fun c1 hf => ?_) (fun c1 hf => ?_)
  · refine j_iconst hX 0 dX9_isPlace_14 (by decide) ?_
    cases hf
    exact j_zret hX hE rfl dX9_isPlace_15 (Nat.le_refl _) (Nat.le_refl _) ⟨rfl, rfl⟩
  · refine j_iload_n hX dX9_isPlace_4 rfl 0 rfl ?_
    refine j_bipush hX 6 dX9_isPlace_5 (by decide) ?_
    refine j_icmp_ge hX 14 dX9_isPlace_7 (by decide) hf (fun c7 hf => ?_) (fun c7 hf => ?_)
    · refine j_iconst hX 0 dX9_isPlace_14 (by decide) ?_
      cases hf
      exact j_zret hX hE rfl dX9_isPlace_15 (Nat.le_refl _) (Nat.le_refl _) ⟨rfl, rfl⟩
    · refine j_iconst hX 1 dX9_isPlace_10 (by decide) ?_
      refine j_goto hX 15 dX9_isPlace_11 (by decide) ?_
      cases hf
      exact j_zret hX hE rfl dX9_isPlace_15 (Nat.le_refl _) (Nat.le_refl _) ⟨rfl, rfl⟩
-- HammerDepot$Hammers contentOf (II)I
def f_X2_contentOf (h_contents : Nat → Int32) (a0 : Int32) (a1 : Int32) : Option (Int32) :=
  Option.bind (f_X9_isRack a0) (fun u1 =>
    if u1 = 0 then
      some (-1)
    else
      Option.bind (f_X9_isPlace a1) (fun u3 =>
        if u3 = 0 then
          some (-1)
        else
          if jin ((a0 * 6) + a1) 18 = true then
            some (h_contents ((a0 * 6) + a1).toNatClampNeg)
          else none))
set_option maxHeartbeats 4000000 in
set_option maxRecDepth 100000 in
theorem k_X2_contentOf {l : Launch} {D : va_G} {t : Nat → ClassId} {ad : Nat → Nat} {o : Nat} (h_count : Int32) (h_pitches : Nat → Int32) (h_wears : Nat → Int32) (h_slots : Nat → Int32) (h_borrowers : Nat → Int32) (h_dueDays : Nat → Int32) (h_contents : Nat → Int32) (a0 : Int32) (a1 : Int32) (u : Int32) (hf : f_X2_contentOf h_contents a0 a1 = some u) : cm l D (jT t) yX2_contentOf cX2_contentOf 3 (some FieldType.int) { frames := 1, cells := 0, slots := 0, locals := 20 } [.ref (ad o), .int a0, .int a1] (wH t ad o h_count h_pitches h_wears h_slots h_borrowers h_dueDays h_contents) (fun v w => v = (some (.int u)) ∧ w = wH t ad o h_count h_pitches h_wears h_slots h_borrowers h_dueDays h_contents) := by
  refine cm_of RX2 rfl (by decide +kernel) (Nat.le_of_ble_eq_true rfl) (fun X hX hE => ?_)
  change J X 0 0 (wH t ad o h_count h_pitches h_wears h_slots h_borrowers h_dueDays h_contents) 0 [(0, .ref (ad o)), (1, .int a0), (2, .int a1)] []
  unfold f_X2_contentOf at hf
  refine j_iload_n hX dX2_contentOf_0 rfl 1 rfl ?_
  obtain ⟨u1, h2, hf⟩ := jbind hf
  refine j_callSN (st := []) hX (k_X9_isRack (l := l) (D := D) (t := t) (ad := ad)  a0 u1 h2) q543 q544 q1 q545 (n9 := 1) rfl ⟨by decide +kernel, by decide +kernel⟩ dX2_contentOf_1 (Nat.le_of_ble_eq_true rfl) ⟨Nat.le_refl _, Nat.le_refl _⟩ (fun w : va_W => w ++ (wH t ad o h_count h_pitches h_wears h_slots h_borrowers h_dueDays h_contents)) (jFr_r (wH t ad o h_count h_pitches h_wears h_slots h_borrowers h_dueDays h_contents)) rfl rfl (fun v w hvw => ?_)
  obtain ⟨rfl, rfl⟩ := hvw
  change J X 0 0 (wH t ad o h_count h_pitches h_wears h_slots h_borrowers h_dueDays h_contents) 4 [(0, .ref (ad o)), (1, .int a0), (2, .int a1)] [.int u1]
  refine j_if_eq hX 28 dX2_contentOf_4 (by decide) hf (fun c4 hf => ?_) (fun c4 hf => ?_)
  · refine j_iconst hX (-1) dX2_contentOf_28 (by decide) ?_
    cases hf
    exact j_iret hX hE dX2_contentOf_29 (Nat.le_refl _) (Nat.le_refl _) ⟨rfl, rfl⟩
  · refine j_iload_n hX dX2_contentOf_7 rfl 2 rfl ?_
    obtain ⟨u3, h4, hf⟩ := jbind hf
    refine j_callSN (st := []) hX (k_X9_isPlace (l := l) (D := D) (t := t) (ad := ad)  a1 u3 h4) q546 q547 q1 q548 (n9 := 1) rfl ⟨by decide +kernel, by decide +kernel⟩ dX2_contentOf_8 (Nat.le_of_ble_eq_true rfl) ⟨Nat.le_refl _, Nat.le_refl _⟩ (fun w : va_W => w ++ (wH t ad o h_count h_pitches h_wears h_slots h_borrowers h_dueDays h_contents)) (jFr_r (wH t ad o h_count h_pitches h_wears h_slots h_borrowers h_dueDays h_contents)) rfl rfl (fun v w hvw => ?_)
    obtain ⟨rfl, rfl⟩ := hvw
    change J X 0 0 (wH t ad o h_count h_pitches h_wears h_slots h_borrowers h_dueDays h_contents) 11 [(0, .ref (ad o)), (1, .int a0), (2, .int a1)] [.int u3]
    refine j_if_eq hX 28 dX2_contentOf_11 (by decide) hf (fun c11 hf => ?_) (fun c11 hf => ?_)
    · refine j_iconst hX (-1) dX2_contentOf_28 (by decide) ?_
      cases hf
      exact j_iret hX hE dX2_contentOf_29 (Nat.le_refl _) (Nat.le_refl _) ⟨rfl, rfl⟩
    · refine j_aload_n hX dX2_contentOf_14 rfl 0 rfl ?_
      refine j_get hX dX2_contentOf_15 inX2 6 q64 0 rfl rfl (by decide) rfl rfl ?_
      refine j_iload_n hX dX2_contentOf_18 rfl 1 rfl ?_
      refine j_bipush hX 6 dX2_contentOf_19 (by decide) ?_
      refine j_imul hX dX2_contentOf_21 ?_
      refine j_iload_n hX dX2_contentOf_22 rfl 2 rfl ?_
      refine j_iadd hX dX2_contentOf_23 ?_
      refine j_iald hX dX2_contentOf_24 6 0 rfl rfl hf (fun c24 hf => ?_)
      refine j_goto hX 29 dX2_contentOf_25 (by decide) ?_
      cases hf
      exact j_iret hX hE dX2_contentOf_29 (Nat.le_refl _) (Nat.le_refl _) ⟨rfl, rfl⟩
-- HammerDepot$Hammers countIn (I)I
def f_X2_countIn_L4 (h_contents : Nat → Int32) (x1 : Int32) : Nat → Int32 → Int32 → Option (Int32 × Int32)
  | 0, _, _ => none
  | jn + 1, x3, x2 =>
    if 6 ≤ x3 then
      some (x3, x2)
    else
      Option.bind (f_X2_contentOf h_contents x1 x3) (fun u1 =>
        if u1 = (-1) then
          f_X2_countIn_L4 h_contents x1 jn (x3 + 1) x2
        else
          f_X2_countIn_L4 h_contents x1 jn (x3 + 1) (x2 + 1))
def f_X2_countIn (h_contents : Nat → Int32) (a0 : Int32) : Option (Int32) :=
  Option.bind (f_X2_countIn_L4 h_contents a0 jFU 0 0) (fun s4 =>
    some s4.2)
set_option maxHeartbeats 4000000 in
set_option maxRecDepth 100000 in
theorem k_X2_countIn_L4 {l : Launch} {D : va_G} {t : Nat → ClassId} {ad : Nat → Nat} {o : Nat} (h_contents : Nat → Int32) (x1 : Int32) (h_count : Int32) (h_pitches : Nat → Int32) (h_wears : Nat → Int32) (h_slots : Nat → Int32) (h_borrowers : Nat → Int32) (h_dueDays : Nat → Int32) {X : jX} (hX : jOK X l D (jT t) cX2_countIn RX2 (some FieldType.int) { frames := 2, cells := 0, slots := 0, locals := 42 } 4) :
    ∀ (jn : Nat) (x3 : Int32) (x2 : Int32) (u : Int32 × Int32) (hf : f_X2_countIn_L4 h_contents x1 jn x3 x2 = some u) (kx : ∀ s : Int32 × Int32, u = s → J X 0 0 (wH t ad o h_count h_pitches h_wears h_slots h_borrowers h_dueDays h_contents) 29 [(3, .int s.1), (2, .int s.2), (0, .ref (ad o)), (1, .int x1)] []), J X 0 0 (wH t ad o h_count h_pitches h_wears h_slots h_borrowers h_dueDays h_contents) 4 [(3, .int x3), (2, .int x2), (0, .ref (ad o)), (1, .int x1)] [] := by
  intro jn
  induction jn with
  | zero => intro x3 x2 u hf; cases (show (none : Option (Int32 × Int32)) = some u from hf)
  | succ jn ih =>
    intro x3 x2 u hf kx
    unfold f_X2_countIn_L4 at hf
    refine j_iload_n hX dX2_countIn_4 rfl 0 rfl ?_
    refine j_bipush hX 6 dX2_countIn_5 (by decide) ?_
    refine j_icmp_ge hX 29 dX2_countIn_7 (by decide) hf (fun c7 hf => ?_) (fun c7 hf => ?_)
    · cases hf
      exact kx _ rfl
    · refine j_aload_n hX dX2_countIn_10 rfl 2 rfl ?_
      refine j_iload_n hX dX2_countIn_11 rfl 3 rfl ?_
      refine j_iload_n hX dX2_countIn_12 rfl 0 rfl ?_
      obtain ⟨u1, h2, hf⟩ := jbind hf
      refine j_callV (st := []) hX (k_X2_contentOf (l := l) (D := D) (t := t) (ad := ad) (o := o) h_count h_pitches h_wears h_slots h_borrowers h_dueDays h_contents x1 x3 u1 h2) q623 q540 q541 q3 q542 (n9 := 2) rfl ⟨by decide +kernel, by decide +kernel⟩ 0 rfl rfl rfl dX2_countIn_13 (Nat.le_of_ble_eq_true rfl) ⟨Nat.le_refl _, Nat.le_refl _⟩ (fun w : va_W => w) jFr_id rfl rfl (fun v w hvw => ?_)
      obtain ⟨rfl, rfl⟩ := hvw
      change J X 0 0 (wH t ad o h_count h_pitches h_wears h_slots h_borrowers h_dueDays h_contents) 16 [(3, .int x3), (2, .int x2), (0, .ref (ad o)), (1, .int x1)] [.int u1]
      refine j_iconst hX (-1) dX2_countIn_16 (by decide) ?_
      refine j_icmp_eq hX 23 dX2_countIn_17 (by decide) hf (fun c17 hf => ?_) (fun c17 hf => ?_)
      · refine j_iinc hX (x3 + 1) [(3, .int (x3 + 1)), (2, .int x2), (0, .ref (ad o)), (1, .int x1)] dX2_countIn_23 0 rfl rfl (by decide) rfl ?_
        refine j_goto hX 4 dX2_countIn_26 (by decide) ?_
        exact ih (x3 + 1) x2 u hf kx
      · refine j_iinc hX (x2 + 1) [(2, .int (x2 + 1)), (3, .int x3), (0, .ref (ad o)), (1, .int x1)] dX2_countIn_20 1 rfl rfl (by decide) rfl ?_
        refine j_iinc hX (x3 + 1) [(3, .int (x3 + 1)), (2, .int (x2 + 1)), (0, .ref (ad o)), (1, .int x1)] dX2_countIn_23 1 rfl rfl (by decide) rfl ?_
        refine j_goto hX 4 dX2_countIn_26 (by decide) ?_
        exact ih (x3 + 1) (x2 + 1) u hf kx
set_option maxHeartbeats 4000000 in
set_option maxRecDepth 100000 in
theorem k_X2_countIn {l : Launch} {D : va_G} {t : Nat → ClassId} {ad : Nat → Nat} {o : Nat} (h_count : Int32) (h_pitches : Nat → Int32) (h_wears : Nat → Int32) (h_slots : Nat → Int32) (h_borrowers : Nat → Int32) (h_dueDays : Nat → Int32) (h_contents : Nat → Int32) (a0 : Int32) (u : Int32) (hf : f_X2_countIn h_contents a0 = some u) : cm l D (jT t) yX2_countIn cX2_countIn 4 (some FieldType.int) { frames := 2, cells := 0, slots := 0, locals := 42 } [.ref (ad o), .int a0] (wH t ad o h_count h_pitches h_wears h_slots h_borrowers h_dueDays h_contents) (fun v w => v = (some (.int u)) ∧ w = wH t ad o h_count h_pitches h_wears h_slots h_borrowers h_dueDays h_contents) := by
  refine cm_of RX2 rfl (by decide +kernel) (Nat.le_of_ble_eq_true rfl) (fun X hX hE => ?_)
  change J X 0 0 (wH t ad o h_count h_pitches h_wears h_slots h_borrowers h_dueDays h_contents) 0 [(0, .ref (ad o)), (1, .int a0)] []
  unfold f_X2_countIn at hf
  refine j_iconst hX 0 dX2_countIn_0 (by decide) ?_
  refine j_istore_n hX [(2, .int 0), (0, .ref (ad o)), (1, .int a0)] dX2_countIn_1 rfl (by decide) rfl ?_
  refine j_iconst hX 0 dX2_countIn_2 (by decide) ?_
  refine j_istore_n hX [(3, .int 0), (2, .int 0), (0, .ref (ad o)), (1, .int a0)] dX2_countIn_3 rfl (by decide) rfl ?_
  obtain ⟨s4, h5, hf⟩ := jbind hf
  refine k_X2_countIn_L4 (ad := ad) h_contents a0 h_count h_pitches h_wears h_slots h_borrowers h_dueDays hX jFU 0 0 s4 h5 (fun s40 es4 => ?_)
  subst es4
  refine j_iload_n hX dX2_countIn_29 rfl 1 rfl ?_
  cases hf
  exact j_iret hX hE dX2_countIn_30 (Nat.le_refl _) (Nat.le_refl _) ⟨rfl, rfl⟩
-- HammerDepot$Hammers wearSum ()I
def f_X2_wearSum_L4 (h_count : Int32) (h_wears : Nat → Int32) : Nat → Int32 → Int32 → Option (Int32 × Int32)
  | 0, _, _ => none
  | jn + 1, x2, x1 =>
    if h_count ≤ x2 then
      some (x2, x1)
    else
      Option.bind (f_X2_wearOf h_count h_wears x2) (fun u1 =>
        f_X2_wearSum_L4 h_count h_wears jn (x2 + 1) (x1 + u1))
def f_X2_wearSum (h_count : Int32) (h_wears : Nat → Int32) : Option (Int32) :=
  Option.bind (f_X2_wearSum_L4 h_count h_wears jFU 0 0) (fun s4 =>
    some s4.2)
set_option maxHeartbeats 4000000 in
set_option maxRecDepth 100000 in
theorem k_X2_wearSum_L4 {l : Launch} {D : va_G} {t : Nat → ClassId} {ad : Nat → Nat} {o : Nat} (h_count : Int32) (h_wears : Nat → Int32) (h_pitches : Nat → Int32) (h_slots : Nat → Int32) (h_borrowers : Nat → Int32) (h_dueDays : Nat → Int32) (h_contents : Nat → Int32) {X : jX} (hX : jOK X l D (jT t) cX2_wearSum RX2 (some FieldType.int) { frames := 2, cells := 0, slots := 0, locals := 42 } 3) :
    ∀ (jn : Nat) (x2 : Int32) (x1 : Int32) (u : Int32 × Int32) (hf : f_X2_wearSum_L4 h_count h_wears jn x2 x1 = some u) (kx : ∀ s : Int32 × Int32, u = s → J X 0 0 (wH t ad o h_count h_pitches h_wears h_slots h_borrowers h_dueDays h_contents) 26 [(2, .int s.1), (1, .int s.2), (0, .ref (ad o))] []), J X 0 0 (wH t ad o h_count h_pitches h_wears h_slots h_borrowers h_dueDays h_contents) 4 [(2, .int x2), (1, .int x1), (0, .ref (ad o))] [] := by
  intro jn
  induction jn with
  | zero => intro x2 x1 u hf; cases (show (none : Option (Int32 × Int32)) = some u from hf)
  | succ jn ih =>
    intro x2 x1 u hf kx
    unfold f_X2_wearSum_L4 at hf
    refine j_iload_n hX dX2_wearSum_4 rfl 0 rfl ?_
    refine j_aload_n hX dX2_wearSum_5 rfl 2 rfl ?_
    refine j_get hX dX2_wearSum_6 inX2 0 q58 0 rfl rfl (by decide) rfl rfl ?_
    refine j_icmp_ge hX 26 dX2_wearSum_9 (by decide) hf (fun c9 hf => ?_) (fun c9 hf => ?_)
    · cases hf
      exact kx _ rfl
    · refine j_iload_n hX dX2_wearSum_12 rfl 1 rfl ?_
      refine j_aload_n hX dX2_wearSum_13 rfl 2 rfl ?_
      refine j_iload_n hX dX2_wearSum_14 rfl 0 rfl ?_
      obtain ⟨u1, h2, hf⟩ := jbind hf
      refine j_callV (st := [.int x1]) hX (k_X2_wearOf (l := l) (D := D) (t := t) (ad := ad) (o := o) h_count h_pitches h_wears h_slots h_borrowers h_dueDays h_contents x2 u1 h2) q1008 q283 q284 q3 q285 (n9 := 1) rfl ⟨by decide +kernel, by decide +kernel⟩ 0 rfl rfl rfl dX2_wearSum_15 (Nat.le_of_ble_eq_true rfl) ⟨Nat.le_refl _, Nat.le_refl _⟩ (fun w : va_W => w) jFr_id rfl rfl (fun v w hvw => ?_)
      obtain ⟨rfl, rfl⟩ := hvw
      change J X 0 0 (wH t ad o h_count h_pitches h_wears h_slots h_borrowers h_dueDays h_contents) 18 [(2, .int x2), (1, .int x1), (0, .ref (ad o))] [.int u1, .int x1]
      refine j_iadd hX dX2_wearSum_18 ?_
      refine j_istore_n hX [(1, .int (x1 + u1)), (2, .int x2), (0, .ref (ad o))] dX2_wearSum_19 rfl (by decide) rfl ?_
      refine j_iinc hX (x2 + 1) [(2, .int (x2 + 1)), (1, .int (x1 + u1)), (0, .ref (ad o))] dX2_wearSum_20 1 rfl rfl (by decide) rfl ?_
      refine j_goto hX 4 dX2_wearSum_23 (by decide) ?_
      exact ih (x2 + 1) (x1 + u1) u hf kx
set_option maxHeartbeats 4000000 in
set_option maxRecDepth 100000 in
theorem k_X2_wearSum {l : Launch} {D : va_G} {t : Nat → ClassId} {ad : Nat → Nat} {o : Nat} (h_count : Int32) (h_pitches : Nat → Int32) (h_wears : Nat → Int32) (h_slots : Nat → Int32) (h_borrowers : Nat → Int32) (h_dueDays : Nat → Int32) (h_contents : Nat → Int32)  (u : Int32) (hf : f_X2_wearSum h_count h_wears = some u) : cm l D (jT t) yX2_wearSum cX2_wearSum 3 (some FieldType.int) { frames := 2, cells := 0, slots := 0, locals := 42 } [.ref (ad o)] (wH t ad o h_count h_pitches h_wears h_slots h_borrowers h_dueDays h_contents) (fun v w => v = (some (.int u)) ∧ w = wH t ad o h_count h_pitches h_wears h_slots h_borrowers h_dueDays h_contents) := by
  refine cm_of RX2 rfl (by decide +kernel) (Nat.le_of_ble_eq_true rfl) (fun X hX hE => ?_)
  change J X 0 0 (wH t ad o h_count h_pitches h_wears h_slots h_borrowers h_dueDays h_contents) 0 [(0, .ref (ad o))] []
  unfold f_X2_wearSum at hf
  refine j_iconst hX 0 dX2_wearSum_0 (by decide) ?_
  refine j_istore_n hX [(1, .int 0), (0, .ref (ad o))] dX2_wearSum_1 rfl (by decide) rfl ?_
  refine j_iconst hX 0 dX2_wearSum_2 (by decide) ?_
  refine j_istore_n hX [(2, .int 0), (1, .int 0), (0, .ref (ad o))] dX2_wearSum_3 rfl (by decide) rfl ?_
  obtain ⟨s4, h5, hf⟩ := jbind hf
  refine k_X2_wearSum_L4 (ad := ad) h_count h_wears h_pitches h_slots h_borrowers h_dueDays h_contents hX jFU 0 0 s4 h5 (fun s40 es4 => ?_)
  subst es4
  refine j_iload_n hX dX2_wearSum_26 rfl 1 rfl ?_
  cases hf
  exact j_iret hX hE dX2_wearSum_27 (Nat.le_refl _) (Nat.le_refl _) ⟨rfl, rfl⟩
-- HammerDepot$Hammers awayCount ()I
def f_X2_awayCount_L4 (h_count : Int32) (h_slots : Nat → Int32) : Nat → Int32 → Int32 → Option (Int32 × Int32)
  | 0, _, _ => none
  | jn + 1, x2, x1 =>
    if h_count ≤ x2 then
      some (x2, x1)
    else
      Option.bind (f_X2_isAway h_count h_slots x2) (fun u1 =>
        if u1 = 0 then
          f_X2_awayCount_L4 h_count h_slots jn (x2 + 1) x1
        else
          f_X2_awayCount_L4 h_count h_slots jn (x2 + 1) (x1 + 1))
def f_X2_awayCount (h_count : Int32) (h_slots : Nat → Int32) : Option (Int32) :=
  Option.bind (f_X2_awayCount_L4 h_count h_slots jFU 0 0) (fun s4 =>
    some s4.2)
set_option maxHeartbeats 4000000 in
set_option maxRecDepth 100000 in
theorem k_X2_awayCount_L4 {l : Launch} {D : va_G} {t : Nat → ClassId} {ad : Nat → Nat} {o : Nat} (h_count : Int32) (h_slots : Nat → Int32) (h_pitches : Nat → Int32) (h_wears : Nat → Int32) (h_borrowers : Nat → Int32) (h_dueDays : Nat → Int32) (h_contents : Nat → Int32) {X : jX} (hX : jOK X l D (jT t) cX2_awayCount RX2 (some FieldType.int) { frames := 2, cells := 0, slots := 0, locals := 42 } 3) :
    ∀ (jn : Nat) (x2 : Int32) (x1 : Int32) (u : Int32 × Int32) (hf : f_X2_awayCount_L4 h_count h_slots jn x2 x1 = some u) (kx : ∀ s : Int32 × Int32, u = s → J X 0 0 (wH t ad o h_count h_pitches h_wears h_slots h_borrowers h_dueDays h_contents) 29 [(2, .int s.1), (1, .int s.2), (0, .ref (ad o))] []), J X 0 0 (wH t ad o h_count h_pitches h_wears h_slots h_borrowers h_dueDays h_contents) 4 [(2, .int x2), (1, .int x1), (0, .ref (ad o))] [] := by
  intro jn
  induction jn with
  | zero => intro x2 x1 u hf; cases (show (none : Option (Int32 × Int32)) = some u from hf)
  | succ jn ih =>
    intro x2 x1 u hf kx
    unfold f_X2_awayCount_L4 at hf
    refine j_iload_n hX dX2_awayCount_4 rfl 0 rfl ?_
    refine j_aload_n hX dX2_awayCount_5 rfl 2 rfl ?_
    refine j_get hX dX2_awayCount_6 inX2 0 q58 0 rfl rfl (by decide) rfl rfl ?_
    refine j_icmp_ge hX 29 dX2_awayCount_9 (by decide) hf (fun c9 hf => ?_) (fun c9 hf => ?_)
    · cases hf
      exact kx _ rfl
    · refine j_aload_n hX dX2_awayCount_12 rfl 2 rfl ?_
      refine j_iload_n hX dX2_awayCount_13 rfl 0 rfl ?_
      obtain ⟨u1, h2, hf⟩ := jbind hf
      refine j_callV (st := []) hX (k_X2_isAway (l := l) (D := D) (t := t) (ad := ad) (o := o) h_count h_pitches h_wears h_slots h_borrowers h_dueDays h_contents x2 u1 h2) q1041 q287 q288 q3 q289 (n9 := 1) rfl ⟨by decide +kernel, by decide +kernel⟩ 0 rfl rfl rfl dX2_awayCount_14 (Nat.le_of_ble_eq_true rfl) ⟨Nat.le_refl _, Nat.le_refl _⟩ (fun w : va_W => w) jFr_id rfl rfl (fun v w hvw => ?_)
      obtain ⟨rfl, rfl⟩ := hvw
      change J X 0 0 (wH t ad o h_count h_pitches h_wears h_slots h_borrowers h_dueDays h_contents) 17 [(2, .int x2), (1, .int x1), (0, .ref (ad o))] [.int u1]
      refine j_if_eq hX 23 dX2_awayCount_17 (by decide) hf (fun c17 hf => ?_) (fun c17 hf => ?_)
      · refine j_iinc hX (x2 + 1) [(2, .int (x2 + 1)), (1, .int x1), (0, .ref (ad o))] dX2_awayCount_23 0 rfl rfl (by decide) rfl ?_
        refine j_goto hX 4 dX2_awayCount_26 (by decide) ?_
        exact ih (x2 + 1) x1 u hf kx
      · refine j_iinc hX (x1 + 1) [(1, .int (x1 + 1)), (2, .int x2), (0, .ref (ad o))] dX2_awayCount_20 1 rfl rfl (by decide) rfl ?_
        refine j_iinc hX (x2 + 1) [(2, .int (x2 + 1)), (1, .int (x1 + 1)), (0, .ref (ad o))] dX2_awayCount_23 1 rfl rfl (by decide) rfl ?_
        refine j_goto hX 4 dX2_awayCount_26 (by decide) ?_
        exact ih (x2 + 1) (x1 + 1) u hf kx
set_option maxHeartbeats 4000000 in
set_option maxRecDepth 100000 in
theorem k_X2_awayCount {l : Launch} {D : va_G} {t : Nat → ClassId} {ad : Nat → Nat} {o : Nat} (h_count : Int32) (h_pitches : Nat → Int32) (h_wears : Nat → Int32) (h_slots : Nat → Int32) (h_borrowers : Nat → Int32) (h_dueDays : Nat → Int32) (h_contents : Nat → Int32)  (u : Int32) (hf : f_X2_awayCount h_count h_slots = some u) : cm l D (jT t) yX2_awayCount cX2_awayCount 3 (some FieldType.int) { frames := 2, cells := 0, slots := 0, locals := 42 } [.ref (ad o)] (wH t ad o h_count h_pitches h_wears h_slots h_borrowers h_dueDays h_contents) (fun v w => v = (some (.int u)) ∧ w = wH t ad o h_count h_pitches h_wears h_slots h_borrowers h_dueDays h_contents) := by
  refine cm_of RX2 rfl (by decide +kernel) (Nat.le_of_ble_eq_true rfl) (fun X hX hE => ?_)
  change J X 0 0 (wH t ad o h_count h_pitches h_wears h_slots h_borrowers h_dueDays h_contents) 0 [(0, .ref (ad o))] []
  unfold f_X2_awayCount at hf
  refine j_iconst hX 0 dX2_awayCount_0 (by decide) ?_
  refine j_istore_n hX [(1, .int 0), (0, .ref (ad o))] dX2_awayCount_1 rfl (by decide) rfl ?_
  refine j_iconst hX 0 dX2_awayCount_2 (by decide) ?_
  refine j_istore_n hX [(2, .int 0), (1, .int 0), (0, .ref (ad o))] dX2_awayCount_3 rfl (by decide) rfl ?_
  obtain ⟨s4, h5, hf⟩ := jbind hf
  refine k_X2_awayCount_L4 (ad := ad) h_count h_slots h_pitches h_wears h_borrowers h_dueDays h_contents hX jFU 0 0 s4 h5 (fun s40 es4 => ?_)
  subst es4
  refine j_iload_n hX dX2_awayCount_29 rfl 1 rfl ?_
  cases hf
  exact j_iret hX hE dX2_awayCount_30 (Nat.le_refl _) (Nat.le_refl _) ⟨rfl, rfl⟩
-- HammerDepot$Hammers freePlaceOf (I)I
def f_X2_freePlaceOf_L2 (h_contents : Nat → Int32) (x1 : Int32) : Nat → Int32 → Option ((Int32) ⊕ (Int32))
  | 0, _ => none
  | jn + 1, x2 =>
    Option.bind (f_X9_isRack x1) (fun u1 =>
      if u1 = 0 then
        some (.inr x2)
      else
        if 6 ≤ x2 then
          some (.inr x2)
        else
          Option.bind (f_X2_contentOf h_contents x1 x2) (fun u3 =>
            if u3 = (-1) then
              some (.inl x2)
            else
              f_X2_freePlaceOf_L2 h_contents x1 jn (x2 + 1)))
def f_X2_freePlaceOf (h_contents : Nat → Int32) (a0 : Int32) : Option (Int32) :=
  Option.bind (f_X2_freePlaceOf_L2 h_contents a0 jFU 0) (fun o5 => Sum.elim (fun r => some r) (fun s6 =>
    some (-1)) o5)
set_option maxHeartbeats 4000000 in
set_option maxRecDepth 100000 in
theorem k_X2_freePlaceOf_L2 {l : Launch} {D : va_G} {t : Nat → ClassId} {ad : Nat → Nat} {o : Nat} (h_contents : Nat → Int32) (x1 : Int32) (h_count : Int32) (h_pitches : Nat → Int32) (h_wears : Nat → Int32) (h_slots : Nat → Int32) (h_borrowers : Nat → Int32) (h_dueDays : Nat → Int32) {X : jX} (hX : jOK X l D (jT t) cX2_freePlaceOf RX2 (some FieldType.int) { frames := 2, cells := 0, slots := 0, locals := 42 } 3) {PP : Option Value → va_W → Prop} (hE : jEnd X PP 0 0) :
    ∀ (jn : Nat) (x2 : Int32) (u : (Int32) ⊕ (Int32)) (hf : f_X2_freePlaceOf_L2 h_contents x1 jn x2 = some u) (kx : ∀ s : Int32, u = .inr s → J X 0 0 (wH t ad o h_count h_pitches h_wears h_slots h_borrowers h_dueDays h_contents) 33 [(2, .int s), (0, .ref (ad o)), (1, .int x1)] []) (kr : ∀ r : Int32, u = .inl r → PP (some (.int r)) (wH t ad o h_count h_pitches h_wears h_slots h_borrowers h_dueDays h_contents)), J X 0 0 (wH t ad o h_count h_pitches h_wears h_slots h_borrowers h_dueDays h_contents) 2 [(2, .int x2), (0, .ref (ad o)), (1, .int x1)] [] := by
  intro jn
  induction jn with
  | zero => intro x2 u hf; cases (show (none : Option ((Int32) ⊕ (Int32))) = some u from hf)
  | succ jn ih =>
    intro x2 u hf kx kr
    unfold f_X2_freePlaceOf_L2 at hf
    refine j_iload_n hX dX2_freePlaceOf_2 rfl 2 rfl ?_
    obtain ⟨u1, h2, hf⟩ := jbind hf
    refine j_callSN (st := []) hX (k_X9_isRack (l := l) (D := D) (t := t) (ad := ad)  x1 u1 h2) q543 q544 q1 q545 (n9 := 1) rfl ⟨by decide +kernel, by decide +kernel⟩ dX2_freePlaceOf_3 (Nat.le_of_ble_eq_true rfl) ⟨Nat.le_refl _, Nat.le_refl _⟩ (fun w : va_W => w ++ (wH t ad o h_count h_pitches h_wears h_slots h_borrowers h_dueDays h_contents)) (jFr_r (wH t ad o h_count h_pitches h_wears h_slots h_borrowers h_dueDays h_contents)) rfl rfl (fun v w hvw => ?_)
    obtain ⟨rfl, rfl⟩ := hvw
    change J X 0 0 (wH t ad o h_count h_pitches h_wears h_slots h_borrowers h_dueDays h_contents) 6 [(2, .int x2), (0, .ref (ad o)), (1, .int x1)] [.int u1]
    refine j_if_eq hX 33 dX2_freePlaceOf_6 (by decide) hf (fun c6 hf => ?_) (fun c6 hf => ?_)
    · cases hf
      exact kx _ rfl
    · refine j_iload_n hX dX2_freePlaceOf_9 rfl 0 rfl ?_
      refine j_bipush hX 6 dX2_freePlaceOf_10 (by decide) ?_
      refine j_icmp_ge hX 33 dX2_freePlaceOf_12 (by decide) hf (fun c12 hf => ?_) (fun c12 hf => ?_)
      · cases hf
        exact kx _ rfl
      · refine j_aload_n hX dX2_freePlaceOf_15 rfl 1 rfl ?_
        refine j_iload_n hX dX2_freePlaceOf_16 rfl 2 rfl ?_
        refine j_iload_n hX dX2_freePlaceOf_17 rfl 0 rfl ?_
        obtain ⟨u3, h4, hf⟩ := jbind hf
        refine j_callV (st := []) hX (k_X2_contentOf (l := l) (D := D) (t := t) (ad := ad) (o := o) h_count h_pitches h_wears h_slots h_borrowers h_dueDays h_contents x1 x2 u3 h4) q623 q540 q541 q3 q542 (n9 := 2) rfl ⟨by decide +kernel, by decide +kernel⟩ 0 rfl rfl rfl dX2_freePlaceOf_18 (Nat.le_of_ble_eq_true rfl) ⟨Nat.le_refl _, Nat.le_refl _⟩ (fun w : va_W => w) jFr_id rfl rfl (fun v w hvw => ?_)
        obtain ⟨rfl, rfl⟩ := hvw
        change J X 0 0 (wH t ad o h_count h_pitches h_wears h_slots h_borrowers h_dueDays h_contents) 21 [(2, .int x2), (0, .ref (ad o)), (1, .int x1)] [.int u3]
        refine j_iconst hX (-1) dX2_freePlaceOf_21 (by decide) ?_
        refine j_icmp_ne hX 27 dX2_freePlaceOf_22 (by decide) hf (fun c22 hf => ?_) (fun c22 hf => ?_)
        · refine j_iinc hX (x2 + 1) [(2, .int (x2 + 1)), (0, .ref (ad o)), (1, .int x1)] dX2_freePlaceOf_27 0 rfl rfl (by decide) rfl ?_
          refine j_goto hX 2 dX2_freePlaceOf_30 (by decide) ?_
          exact ih (x2 + 1) u hf kx kr
        · refine j_iload_n hX dX2_freePlaceOf_25 rfl 0 rfl ?_
          cases hf
          exact j_iret hX hE dX2_freePlaceOf_26 (Nat.le_refl _) (Nat.le_refl _) (kr _ rfl)
set_option maxHeartbeats 4000000 in
set_option maxRecDepth 100000 in
theorem k_X2_freePlaceOf {l : Launch} {D : va_G} {t : Nat → ClassId} {ad : Nat → Nat} {o : Nat} (h_count : Int32) (h_pitches : Nat → Int32) (h_wears : Nat → Int32) (h_slots : Nat → Int32) (h_borrowers : Nat → Int32) (h_dueDays : Nat → Int32) (h_contents : Nat → Int32) (a0 : Int32) (u : Int32) (hf : f_X2_freePlaceOf h_contents a0 = some u) : cm l D (jT t) yX2_freePlaceOf cX2_freePlaceOf 3 (some FieldType.int) { frames := 2, cells := 0, slots := 0, locals := 42 } [.ref (ad o), .int a0] (wH t ad o h_count h_pitches h_wears h_slots h_borrowers h_dueDays h_contents) (fun v w => v = (some (.int u)) ∧ w = wH t ad o h_count h_pitches h_wears h_slots h_borrowers h_dueDays h_contents) := by
  refine cm_of RX2 rfl (by decide +kernel) (Nat.le_of_ble_eq_true rfl) (fun X hX hE => ?_)
  change J X 0 0 (wH t ad o h_count h_pitches h_wears h_slots h_borrowers h_dueDays h_contents) 0 [(0, .ref (ad o)), (1, .int a0)] []
  unfold f_X2_freePlaceOf at hf
  refine j_iconst hX 0 dX2_freePlaceOf_0 (by decide) ?_
  refine j_istore_n hX [(2, .int 0), (0, .ref (ad o)), (1, .int a0)] dX2_freePlaceOf_1 rfl (by decide) rfl ?_
  obtain ⟨o5, h7, hf⟩ := jbind hf
  refine k_X2_freePlaceOf_L2 (ad := ad) h_contents a0 h_count h_pitches h_wears h_slots h_borrowers h_dueDays hX hE jFU 0 o5 h7 (fun s6 es6 => ?_) (fun r er => ?_)
  · subst es6
    have hf := jsum_r hf
    refine j_iconst hX (-1) dX2_freePlaceOf_33 (by decide) ?_
    cases hf
    exact j_iret hX hE dX2_freePlaceOf_34 (Nat.le_refl _) (Nat.le_refl _) ⟨rfl, rfl⟩
  · subst er
    cases hf
    exact ⟨rfl, rfl⟩
-- HammerDepot$Hammers add (I)I
def f_X2_add (h_count : Int32) (h_pitches : Nat → Int32) (h_wears : Nat → Int32) (h_slots : Nat → Int32) (a0 : Int32) : Option (Int32 × Int32 × (Nat → Int32) × (Nat → Int32) × (Nat → Int32)) :=
  Option.bind (f_X2_isFull h_count) (fun u1 =>
    if u1 = 0 then
      if jin h_count 12 = true then
        if jin h_count 12 = true then
          if jin h_count 12 = true then
            some (h_count, h_count + 1, upd h_pitches (h_count).toNatClampNeg a0, upd h_wears (h_count).toNatClampNeg 0, upd h_slots (h_count).toNatClampNeg (-1))
          else none
        else none
      else none
    else
      some ((-1), h_count, h_pitches, h_wears, h_slots))
set_option maxHeartbeats 4000000 in
set_option maxRecDepth 100000 in
theorem k_X2_add {l : Launch} {D : va_G} {t : Nat → ClassId} {ad : Nat → Nat} {o : Nat} (h_count : Int32) (h_pitches : Nat → Int32) (h_wears : Nat → Int32) (h_slots : Nat → Int32) (h_borrowers : Nat → Int32) (h_dueDays : Nat → Int32) (h_contents : Nat → Int32) (a0 : Int32) (u : Int32 × Int32 × (Nat → Int32) × (Nat → Int32) × (Nat → Int32)) (hf : f_X2_add h_count h_pitches h_wears h_slots a0 = some u) : cm l D (jT t) yX2_add cX2_add 3 (some FieldType.int) { frames := 1, cells := 0, slots := 0, locals := 20 } [.ref (ad o), .int a0] (wH t ad o h_count h_pitches h_wears h_slots h_borrowers h_dueDays h_contents) (fun v w => v = (some (.int u.1)) ∧ w = wH t ad o u.2.1 u.2.2.1 u.2.2.2.1 u.2.2.2.2 h_borrowers h_dueDays h_contents) := by
  refine cm_of RX2 rfl (by decide +kernel) (Nat.le_of_ble_eq_true rfl) (fun X hX hE => ?_)
  change J X 0 0 (wH t ad o h_count h_pitches h_wears h_slots h_borrowers h_dueDays h_contents) 0 [(0, .ref (ad o)), (1, .int a0)] []
  unfold f_X2_add at hf
  refine j_aload_n hX dX2_add_0 rfl 0 rfl ?_
  obtain ⟨u1, h2, hf⟩ := jbind hf
  refine j_callV (st := []) hX (k_X2_isFull (l := l) (D := D) (t := t) (ad := ad) (o := o) h_count h_pitches h_wears h_slots h_borrowers h_dueDays h_contents  u1 h2) q632 q625 q626 q3 q627 (n9 := 0) rfl ⟨by decide +kernel, by decide +kernel⟩ 0 rfl rfl rfl dX2_add_1 (Nat.le_of_ble_eq_true rfl) ⟨Nat.le_refl _, Nat.le_refl _⟩ (fun w : va_W => w) jFr_id rfl rfl (fun v w hvw => ?_)
  obtain ⟨rfl, rfl⟩ := hvw
  change J X 0 0 (wH t ad o h_count h_pitches h_wears h_slots h_borrowers h_dueDays h_contents) 4 [(0, .ref (ad o)), (1, .int a0)] [.int u1]
  refine j_if_eq hX 9 dX2_add_4 (by decide) hf (fun c4 hf => ?_) (fun c4 hf => ?_)
  · refine j_aload_n hX dX2_add_9 rfl 0 rfl ?_
    refine j_get hX dX2_add_10 inX2 0 q58 0 rfl rfl (by decide) rfl rfl ?_
    refine j_istore_n hX [(2, .int h_count), (0, .ref (ad o)), (1, .int a0)] dX2_add_13 rfl (by decide) rfl ?_
    refine j_aload_n hX dX2_add_14 rfl 1 rfl ?_
    refine j_dup hX dX2_add_15 rfl ?_
    refine j_get hX dX2_add_16 inX2 0 q58 0 rfl rfl (by decide) rfl rfl ?_
    refine j_iconst hX 1 dX2_add_19 (by decide) ?_
    refine j_iadd hX dX2_add_20 ?_
    refine j_put hX (wH t ad o (h_count + 1) h_pitches h_wears h_slots h_borrowers h_dueDays h_contents) tyX2 dX2_add_21 inX2 tyX2_ok nmX2 0 q58 0 rfl rfl (by decide) rfl rfl rfl rfl rfl (Nat.le_of_ble_eq_true rfl) rfl ?_
    refine j_aload_n hX dX2_add_24 rfl 1 rfl ?_
    refine j_get hX dX2_add_25 inX2 1 q59 0 rfl rfl (by decide) rfl rfl ?_
    refine j_iload_n hX dX2_add_28 rfl 0 rfl ?_
    refine j_iload_n hX dX2_add_29 rfl 2 rfl ?_
    refine j_iast hX (wH t ad o (h_count + 1) (upd h_pitches (h_count).toNatClampNeg a0) h_wears h_slots h_borrowers h_dueDays h_contents) dX2_add_30 1 0 rfl rfl rfl hf (fun c30 hf => ?_)
    refine j_aload_n hX dX2_add_31 rfl 1 rfl ?_
    refine j_get hX dX2_add_32 inX2 2 q60 0 rfl rfl (by decide) rfl rfl ?_
    refine j_iload_n hX dX2_add_35 rfl 0 rfl ?_
    refine j_iconst hX 0 dX2_add_36 (by decide) ?_
    refine j_iast hX (wH t ad o (h_count + 1) (upd h_pitches (h_count).toNatClampNeg a0) (upd h_wears (h_count).toNatClampNeg 0) h_slots h_borrowers h_dueDays h_contents) dX2_add_37 2 0 rfl rfl rfl hf (fun c37 hf => ?_)
    refine j_aload_n hX dX2_add_38 rfl 1 rfl ?_
    refine j_get hX dX2_add_39 inX2 3 q61 0 rfl rfl (by decide) rfl rfl ?_
    refine j_iload_n hX dX2_add_42 rfl 0 rfl ?_
    refine j_iconst hX (-1) dX2_add_43 (by decide) ?_
    refine j_iast hX (wH t ad o (h_count + 1) (upd h_pitches (h_count).toNatClampNeg a0) (upd h_wears (h_count).toNatClampNeg 0) (upd h_slots (h_count).toNatClampNeg (-1)) h_borrowers h_dueDays h_contents) dX2_add_44 3 0 rfl rfl rfl hf (fun c44 hf => ?_)
    refine j_iload_n hX dX2_add_45 rfl 0 rfl ?_
    cases hf
    exact j_iret hX hE dX2_add_46 (Nat.le_refl _) (Nat.le_refl _) ⟨rfl, rfl⟩
  · refine j_iconst hX (-1) dX2_add_7 (by decide) ?_
    cases hf
    exact j_iret hX hE dX2_add_8 (Nat.le_refl _) (Nat.le_refl _) ⟨rfl, rfl⟩
-- HammerDepot$Hammers setContent (III)V
def f_X2_setContent (h_count : Int32) (h_slots : Nat → Int32) (h_contents : Nat → Int32) (a0 : Int32) (a1 : Int32) (a2 : Int32) : Option ((Nat → Int32) × (Nat → Int32)) :=
  Option.bind (f_X9_isRack a0) (fun u1 =>
    if u1 = 0 then
      some (h_slots, h_contents)
    else
      Option.bind (f_X9_isPlace a1) (fun u3 =>
        if u3 = 0 then
          some (h_slots, h_contents)
        else
          if jin ((a0 * 6) + a1) 18 = true then
            Option.bind (f_X2_has h_count a2) (fun u5 =>
              if u5 = 0 then
                some (h_slots, upd h_contents ((a0 * 6) + a1).toNatClampNeg a2)
              else
                if jin a2 12 = true then
                  some (upd h_slots (a2).toNatClampNeg ((a0 * 6) + a1), upd h_contents ((a0 * 6) + a1).toNatClampNeg a2)
                else none)
          else none))
set_option maxHeartbeats 4000000 in
set_option maxRecDepth 100000 in
theorem k_X2_setContent {l : Launch} {D : va_G} {t : Nat → ClassId} {ad : Nat → Nat} {o : Nat} (h_count : Int32) (h_pitches : Nat → Int32) (h_wears : Nat → Int32) (h_slots : Nat → Int32) (h_borrowers : Nat → Int32) (h_dueDays : Nat → Int32) (h_contents : Nat → Int32) (a0 : Int32) (a1 : Int32) (a2 : Int32) (u : (Nat → Int32) × (Nat → Int32)) (hf : f_X2_setContent h_count h_slots h_contents a0 a1 a2 = some u) : cm l D (jT t) yX2_setContent cX2_setContent 5 none { frames := 1, cells := 0, slots := 0, locals := 21 } [.ref (ad o), .int a0, .int a1, .int a2] (wH t ad o h_count h_pitches h_wears h_slots h_borrowers h_dueDays h_contents) (fun v w => v = none ∧ w = wH t ad o h_count h_pitches h_wears u.1 h_borrowers h_dueDays u.2) := by
  refine cm_of RX2 rfl (by decide +kernel) (Nat.le_of_ble_eq_true rfl) (fun X hX hE => ?_)
  change J X 0 0 (wH t ad o h_count h_pitches h_wears h_slots h_borrowers h_dueDays h_contents) 0 [(0, .ref (ad o)), (1, .int a0), (2, .int a1), (3, .int a2)] []
  unfold f_X2_setContent at hf
  refine j_iload_n hX dX2_setContent_0 rfl 1 rfl ?_
  obtain ⟨u1, h2, hf⟩ := jbind hf
  refine j_callSN (st := []) hX (k_X9_isRack (l := l) (D := D) (t := t) (ad := ad)  a0 u1 h2) q543 q544 q1 q545 (n9 := 1) rfl ⟨by decide +kernel, by decide +kernel⟩ dX2_setContent_1 (Nat.le_of_ble_eq_true rfl) ⟨Nat.le_refl _, Nat.le_refl _⟩ (fun w : va_W => w ++ (wH t ad o h_count h_pitches h_wears h_slots h_borrowers h_dueDays h_contents)) (jFr_r (wH t ad o h_count h_pitches h_wears h_slots h_borrowers h_dueDays h_contents)) rfl rfl (fun v w hvw => ?_)
  obtain ⟨rfl, rfl⟩ := hvw
  change J X 0 0 (wH t ad o h_count h_pitches h_wears h_slots h_borrowers h_dueDays h_contents) 4 [(0, .ref (ad o)), (1, .int a0), (2, .int a1), (3, .int a2)] [.int u1]
  refine j_if_eq hX 14 dX2_setContent_4 (by decide) hf (fun c4 hf => ?_) (fun c4 hf => ?_)
  · cases hf
    exact j_vret hX hE dX2_setContent_14 (Nat.le_refl _) (Nat.le_refl _) ⟨rfl, rfl⟩
  · refine j_iload_n hX dX2_setContent_7 rfl 2 rfl ?_
    obtain ⟨u3, h4, hf⟩ := jbind hf
    refine j_callSN (st := []) hX (k_X9_isPlace (l := l) (D := D) (t := t) (ad := ad)  a1 u3 h4) q546 q547 q1 q548 (n9 := 1) rfl ⟨by decide +kernel, by decide +kernel⟩ dX2_setContent_8 (Nat.le_of_ble_eq_true rfl) ⟨Nat.le_refl _, Nat.le_refl _⟩ (fun w : va_W => w ++ (wH t ad o h_count h_pitches h_wears h_slots h_borrowers h_dueDays h_contents)) (jFr_r (wH t ad o h_count h_pitches h_wears h_slots h_borrowers h_dueDays h_contents)) rfl rfl (fun v w hvw => ?_)
    obtain ⟨rfl, rfl⟩ := hvw
    change J X 0 0 (wH t ad o h_count h_pitches h_wears h_slots h_borrowers h_dueDays h_contents) 11 [(0, .ref (ad o)), (1, .int a0), (2, .int a1), (3, .int a2)] [.int u3]
    refine j_if_ne hX 15 dX2_setContent_11 (by decide) hf (fun c11 hf => ?_) (fun c11 hf => ?_)
    · refine j_iload_n hX dX2_setContent_15 rfl 1 rfl ?_
      refine j_bipush hX 6 dX2_setContent_16 (by decide) ?_
      refine j_imul hX dX2_setContent_18 ?_
      refine j_iload_n hX dX2_setContent_19 rfl 2 rfl ?_
      refine j_iadd hX dX2_setContent_20 ?_
      refine j_istore hX [(4, .int ((a0 * 6) + a1)), (0, .ref (ad o)), (1, .int a0), (2, .int a1), (3, .int a2)] dX2_setContent_21 (by decide) rfl ?_
      refine j_aload_n hX dX2_setContent_23 rfl 1 rfl ?_
      refine j_get hX dX2_setContent_24 inX2 6 q64 0 rfl rfl (by decide) rfl rfl ?_
      refine j_iload hX dX2_setContent_27 0 rfl ?_
      refine j_iload_n hX dX2_setContent_29 rfl 4 rfl ?_
      refine j_iast hX (wH t ad o h_count h_pitches h_wears h_slots h_borrowers h_dueDays (upd h_contents ((a0 * 6) + a1).toNatClampNeg a2)) dX2_setContent_30 6 0 rfl rfl rfl hf (fun c30 hf => ?_)
      refine j_aload_n hX dX2_setContent_31 rfl 1 rfl ?_
      refine j_iload_n hX dX2_setContent_32 rfl 4 rfl ?_
      obtain ⟨u5, h6, hf⟩ := jbind hf
      refine j_callV (st := []) hX (k_X2_has (l := l) (D := D) (t := t) (ad := ad) (o := o) h_count h_pitches h_wears h_slots h_borrowers h_dueDays (upd h_contents ((a0 * 6) + a1).toNatClampNeg a2) a2 u5 h6) q270 q263 q264 q3 q265 (n9 := 1) rfl ⟨by decide +kernel, by decide +kernel⟩ 0 rfl rfl rfl dX2_setContent_33 (Nat.le_of_ble_eq_true rfl) ⟨Nat.le_refl _, Nat.le_refl _⟩ (fun w : va_W => w) jFr_id rfl rfl (fun v w hvw => ?_)
      obtain ⟨rfl, rfl⟩ := hvw
      change J X 0 0 (wH t ad o h_count h_pitches h_wears h_slots h_borrowers h_dueDays (upd h_contents ((a0 * 6) + a1).toNatClampNeg a2)) 36 [(4, .int ((a0 * 6) + a1)), (0, .ref (ad o)), (1, .int a0), (2, .int a1), (3, .int a2)] [.int u5]
      refine j_if_eq hX 47 dX2_setContent_36 (by decide) hf (fun c36 hf => ?_) (fun c36 hf => ?_)
      · cases hf
        exact j_vret hX hE dX2_setContent_47 (Nat.le_refl _) (Nat.le_refl _) ⟨rfl, rfl⟩
      · refine j_aload_n hX dX2_setContent_39 rfl 1 rfl ?_
        refine j_get hX dX2_setContent_40 inX2 3 q61 0 rfl rfl (by decide) rfl rfl ?_
        refine j_iload_n hX dX2_setContent_43 rfl 4 rfl ?_
        refine j_iload hX dX2_setContent_44 0 rfl ?_
        refine j_iast hX (wH t ad o h_count h_pitches h_wears (upd h_slots (a2).toNatClampNeg ((a0 * 6) + a1)) h_borrowers h_dueDays (upd h_contents ((a0 * 6) + a1).toNatClampNeg a2)) dX2_setContent_46 3 0 rfl rfl rfl hf (fun c46 hf => ?_)
        cases hf
        exact j_vret hX hE dX2_setContent_47 (Nat.le_refl _) (Nat.le_refl _) ⟨rfl, rfl⟩
    · cases hf
      exact j_vret hX hE dX2_setContent_14 (Nat.le_refl _) (Nat.le_refl _) ⟨rfl, rfl⟩
-- HammerDepot$Hammers takeOut (I)V
def f_X2_takeOut (h_count : Int32) (h_slots : Nat → Int32) (h_contents : Nat → Int32) (a0 : Int32) : Option ((Nat → Int32) × (Nat → Int32)) :=
  Option.bind (f_X2_has h_count a0) (fun u1 =>
    if u1 = 0 then
      some (h_slots, h_contents)
    else
      if jin a0 12 = true then
        if (h_slots (a0).toNatClampNeg) < 0 then
          some (h_slots, h_contents)
        else
          if 18 ≤ (h_slots (a0).toNatClampNeg) then
            some (h_slots, h_contents)
          else
            if jin (h_slots (a0).toNatClampNeg) 18 = true then
              if jin a0 12 = true then
                some (upd h_slots (a0).toNatClampNeg (-1), upd h_contents (h_slots (a0).toNatClampNeg).toNatClampNeg (-1))
              else none
            else none
      else none)
set_option maxHeartbeats 4000000 in
set_option maxRecDepth 100000 in
theorem k_X2_takeOut {l : Launch} {D : va_G} {t : Nat → ClassId} {ad : Nat → Nat} {o : Nat} (h_count : Int32) (h_pitches : Nat → Int32) (h_wears : Nat → Int32) (h_slots : Nat → Int32) (h_borrowers : Nat → Int32) (h_dueDays : Nat → Int32) (h_contents : Nat → Int32) (a0 : Int32) (u : (Nat → Int32) × (Nat → Int32)) (hf : f_X2_takeOut h_count h_slots h_contents a0 = some u) : cm l D (jT t) yX2_takeOut cX2_takeOut 3 none { frames := 1, cells := 0, slots := 0, locals := 21 } [.ref (ad o), .int a0] (wH t ad o h_count h_pitches h_wears h_slots h_borrowers h_dueDays h_contents) (fun v w => v = none ∧ w = wH t ad o h_count h_pitches h_wears u.1 h_borrowers h_dueDays u.2) := by
  refine cm_of RX2 rfl (by decide +kernel) (Nat.le_of_ble_eq_true rfl) (fun X hX hE => ?_)
  change J X 0 0 (wH t ad o h_count h_pitches h_wears h_slots h_borrowers h_dueDays h_contents) 0 [(0, .ref (ad o)), (1, .int a0)] []
  unfold f_X2_takeOut at hf
  refine j_aload_n hX dX2_takeOut_0 rfl 0 rfl ?_
  refine j_iload_n hX dX2_takeOut_1 rfl 1 rfl ?_
  obtain ⟨u1, h2, hf⟩ := jbind hf
  refine j_callV (st := []) hX (k_X2_has (l := l) (D := D) (t := t) (ad := ad) (o := o) h_count h_pitches h_wears h_slots h_borrowers h_dueDays h_contents a0 u1 h2) q270 q263 q264 q3 q265 (n9 := 1) rfl ⟨by decide +kernel, by decide +kernel⟩ 0 rfl rfl rfl dX2_takeOut_2 (Nat.le_of_ble_eq_true rfl) ⟨Nat.le_refl _, Nat.le_refl _⟩ (fun w : va_W => w) jFr_id rfl rfl (fun v w hvw => ?_)
  obtain ⟨rfl, rfl⟩ := hvw
  change J X 0 0 (wH t ad o h_count h_pitches h_wears h_slots h_borrowers h_dueDays h_contents) 5 [(0, .ref (ad o)), (1, .int a0)] [.int u1]
  refine j_if_eq hX 17 dX2_takeOut_5 (by decide) hf (fun c5 hf => ?_) (fun c5 hf => ?_)
  · refine j_iconst hX (-1) dX2_takeOut_17 (by decide) ?_
    refine j_istore_n hX [(2, .int (-1)), (0, .ref (ad o)), (1, .int a0)] dX2_takeOut_18 rfl (by decide) rfl ?_
    refine j_iload_n hX dX2_takeOut_19 rfl 0 rfl ?_
    refine j_if_lt (α := Unit) (F := none) (G := none) (o := none) hX 46 dX2_takeOut_20 (by decide) (ite_self none) (fun c20 _ => ?_) (fun c20 _ => absurd c20 (by decide))
    cases hf
    exact j_vret hX hE dX2_takeOut_46 (Nat.le_refl _) (Nat.le_refl _) ⟨rfl, rfl⟩
  · refine j_aload_n hX dX2_takeOut_8 rfl 0 rfl ?_
    refine j_get hX dX2_takeOut_9 inX2 3 q61 0 rfl rfl (by decide) rfl rfl ?_
    refine j_iload_n hX dX2_takeOut_12 rfl 1 rfl ?_
    refine j_iald hX dX2_takeOut_13 3 0 rfl rfl hf (fun c13 hf => ?_)
    refine j_goto hX 18 dX2_takeOut_14 (by decide) ?_
    refine j_istore_n hX [(2, .int (h_slots (a0).toNatClampNeg)), (0, .ref (ad o)), (1, .int a0)] dX2_takeOut_18 rfl (by decide) rfl ?_
    refine j_iload_n hX dX2_takeOut_19 rfl 0 rfl ?_
    refine j_if_lt hX 46 dX2_takeOut_20 (by decide) hf (fun c20 hf => ?_) (fun c20 hf => ?_)
    · cases hf
      exact j_vret hX hE dX2_takeOut_46 (Nat.le_refl _) (Nat.le_refl _) ⟨rfl, rfl⟩
    · refine j_iload_n hX dX2_takeOut_23 rfl 0 rfl ?_
      refine j_aload_n hX dX2_takeOut_24 rfl 1 rfl ?_
      refine j_get hX dX2_takeOut_25 inX2 6 q64 0 rfl rfl (by decide) rfl rfl ?_
      refine j_alen hX 18 dX2_takeOut_28 6 0 rfl rfl rfl ?_
      refine j_icmp_ge hX 46 dX2_takeOut_29 (by decide) hf (fun c29 hf => ?_) (fun c29 hf => ?_)
      · cases hf
        exact j_vret hX hE dX2_takeOut_46 (Nat.le_refl _) (Nat.le_refl _) ⟨rfl, rfl⟩
      · refine j_aload_n hX dX2_takeOut_32 rfl 1 rfl ?_
        refine j_get hX dX2_takeOut_33 inX2 6 q64 0 rfl rfl (by decide) rfl rfl ?_
        refine j_iload_n hX dX2_takeOut_36 rfl 0 rfl ?_
        refine j_iconst hX (-1) dX2_takeOut_37 (by decide) ?_
        refine j_iast hX (wH t ad o h_count h_pitches h_wears h_slots h_borrowers h_dueDays (upd h_contents (h_slots (a0).toNatClampNeg).toNatClampNeg (-1))) dX2_takeOut_38 6 0 rfl rfl rfl hf (fun c38 hf => ?_)
        refine j_aload_n hX dX2_takeOut_39 rfl 1 rfl ?_
        refine j_get hX dX2_takeOut_40 inX2 3 q61 0 rfl rfl (by decide) rfl rfl ?_
        refine j_iload_n hX dX2_takeOut_43 rfl 2 rfl ?_
        refine j_iconst hX (-1) dX2_takeOut_44 (by decide) ?_
        refine j_iast hX (wH t ad o h_count h_pitches h_wears (upd h_slots (a0).toNatClampNeg (-1)) h_borrowers h_dueDays (upd h_contents (h_slots (a0).toNatClampNeg).toNatClampNeg (-1))) dX2_takeOut_45 3 0 rfl rfl rfl hf (fun c45 hf => ?_)
        cases hf
        exact j_vret hX hE dX2_takeOut_46 (Nat.le_refl _) (Nat.le_refl _) ⟨rfl, rfl⟩
-- HammerDepot$Hammers lend (III)V
def f_X2_lend (h_count : Int32) (h_slots : Nat → Int32) (h_borrowers : Nat → Int32) (h_dueDays : Nat → Int32) (h_contents : Nat → Int32) (a0 : Int32) (a1 : Int32) (a2 : Int32) : Option ((Nat → Int32) × (Nat → Int32) × (Nat → Int32) × (Nat → Int32)) :=
  Option.bind (f_X2_has h_count a0) (fun u1 =>
    if u1 = 0 then
      some (h_slots, h_borrowers, h_dueDays, h_contents)
    else
      Option.bind (f_X2_takeOut h_count h_slots h_contents a0) (fun u3 =>
        if jin a0 12 = true then
          if jin a0 12 = true then
            some (u3.1, upd h_borrowers (a0).toNatClampNeg a1, upd h_dueDays (a0).toNatClampNeg a2, u3.2)
          else none
        else none))
set_option maxHeartbeats 4000000 in
set_option maxRecDepth 100000 in
theorem k_X2_lend {l : Launch} {D : va_G} {t : Nat → ClassId} {ad : Nat → Nat} {o : Nat} (h_count : Int32) (h_pitches : Nat → Int32) (h_wears : Nat → Int32) (h_slots : Nat → Int32) (h_borrowers : Nat → Int32) (h_dueDays : Nat → Int32) (h_contents : Nat → Int32) (a0 : Int32) (a1 : Int32) (a2 : Int32) (u : (Nat → Int32) × (Nat → Int32) × (Nat → Int32) × (Nat → Int32)) (hf : f_X2_lend h_count h_slots h_borrowers h_dueDays h_contents a0 a1 a2 = some u) : cm l D (jT t) yX2_lend cX2_lend 4 none { frames := 2, cells := 0, slots := 0, locals := 43 } [.ref (ad o), .int a0, .int a1, .int a2] (wH t ad o h_count h_pitches h_wears h_slots h_borrowers h_dueDays h_contents) (fun v w => v = none ∧ w = wH t ad o h_count h_pitches h_wears u.1 u.2.1 u.2.2.1 u.2.2.2) := by
  refine cm_of RX2 rfl (by decide +kernel) (Nat.le_of_ble_eq_true rfl) (fun X hX hE => ?_)
  change J X 0 0 (wH t ad o h_count h_pitches h_wears h_slots h_borrowers h_dueDays h_contents) 0 [(0, .ref (ad o)), (1, .int a0), (2, .int a1), (3, .int a2)] []
  unfold f_X2_lend at hf
  refine j_aload_n hX dX2_lend_0 rfl 0 rfl ?_
  refine j_iload_n hX dX2_lend_1 rfl 1 rfl ?_
  obtain ⟨u1, h2, hf⟩ := jbind hf
  refine j_callV (st := []) hX (k_X2_has (l := l) (D := D) (t := t) (ad := ad) (o := o) h_count h_pitches h_wears h_slots h_borrowers h_dueDays h_contents a0 u1 h2) q270 q263 q264 q3 q265 (n9 := 1) rfl ⟨by decide +kernel, by decide +kernel⟩ 0 rfl rfl rfl dX2_lend_2 (Nat.le_of_ble_eq_true rfl) ⟨Nat.le_refl _, Nat.le_refl _⟩ (fun w : va_W => w) jFr_id rfl rfl (fun v w hvw => ?_)
  obtain ⟨rfl, rfl⟩ := hvw
  change J X 0 0 (wH t ad o h_count h_pitches h_wears h_slots h_borrowers h_dueDays h_contents) 5 [(0, .ref (ad o)), (1, .int a0), (2, .int a1), (3, .int a2)] [.int u1]
  refine j_if_eq hX 27 dX2_lend_5 (by decide) hf (fun c5 hf => ?_) (fun c5 hf => ?_)
  · cases hf
    exact j_vret hX hE dX2_lend_27 (Nat.le_refl _) (Nat.le_refl _) ⟨rfl, rfl⟩
  · refine j_aload_n hX dX2_lend_8 rfl 0 rfl ?_
    refine j_iload_n hX dX2_lend_9 rfl 1 rfl ?_
    obtain ⟨u3, h4, hf⟩ := jbind hf
    refine j_callV (st := []) hX (k_X2_takeOut (l := l) (D := D) (t := t) (ad := ad) (o := o) h_count h_pitches h_wears h_slots h_borrowers h_dueDays h_contents a0 u3 h4) q795 q650 q651 q3 q652 (n9 := 1) rfl ⟨by decide +kernel, by decide +kernel⟩ 0 rfl rfl rfl dX2_lend_10 (Nat.le_of_ble_eq_true rfl) ⟨Nat.le_refl _, Nat.le_refl _⟩ (fun w : va_W => w) jFr_id rfl rfl (fun v w hvw => ?_)
    obtain ⟨rfl, rfl⟩ := hvw
    change J X 0 0 (wH t ad o h_count h_pitches h_wears u3.1 h_borrowers h_dueDays u3.2) 13 [(0, .ref (ad o)), (1, .int a0), (2, .int a1), (3, .int a2)] []
    refine j_aload_n hX dX2_lend_13 rfl 0 rfl ?_
    refine j_get hX dX2_lend_14 inX2 4 q62 0 rfl rfl (by decide) rfl rfl ?_
    refine j_iload_n hX dX2_lend_17 rfl 1 rfl ?_
    refine j_iload_n hX dX2_lend_18 rfl 2 rfl ?_
    refine j_iast hX (wH t ad o h_count h_pitches h_wears u3.1 (upd h_borrowers (a0).toNatClampNeg a1) h_dueDays u3.2) dX2_lend_19 4 0 rfl rfl rfl hf (fun c19 hf => ?_)
    refine j_aload_n hX dX2_lend_20 rfl 0 rfl ?_
    refine j_get hX dX2_lend_21 inX2 5 q63 0 rfl rfl (by decide) rfl rfl ?_
    refine j_iload_n hX dX2_lend_24 rfl 1 rfl ?_
    refine j_iload_n hX dX2_lend_25 rfl 3 rfl ?_
    refine j_iast hX (wH t ad o h_count h_pitches h_wears u3.1 (upd h_borrowers (a0).toNatClampNeg a1) (upd h_dueDays (a0).toNatClampNeg a2) u3.2) dX2_lend_26 5 0 rfl rfl rfl hf (fun c26 hf => ?_)
    cases hf
    exact j_vret hX hE dX2_lend_27 (Nat.le_refl _) (Nat.le_refl _) ⟨rfl, rfl⟩
-- HammerDepot$Hammers sortsBefore (II)Z
def f_X2_sortsBefore (h_count : Int32) (h_pitches : Nat → Int32) (a0 : Int32) (a1 : Int32) : Option (Int32) :=
  Option.bind (f_X2_has h_count a0) (fun u1 =>
    if u1 = 0 then
      some 0
    else
      Option.bind (f_X2_has h_count a1) (fun u3 =>
        if u3 = 0 then
          some 0
        else
          if jin a0 12 = true then
            if jin a1 12 = true then
              if ((h_pitches (a0).toNatClampNeg) - (h_pitches (a1).toNatClampNeg)) < 0 then
                some 1
              else
                if ((h_pitches (a0).toNatClampNeg) - (h_pitches (a1).toNatClampNeg)) = 0 then
                  if a1 ≤ a0 then
                    some 0
                  else
                    some 1
                else
                  some 0
            else none
          else none))
set_option maxHeartbeats 4000000 in
set_option maxRecDepth 100000 in
theorem k_X2_sortsBefore {l : Launch} {D : va_G} {t : Nat → ClassId} {ad : Nat → Nat} {o : Nat} (h_count : Int32) (h_pitches : Nat → Int32) (h_wears : Nat → Int32) (h_slots : Nat → Int32) (h_borrowers : Nat → Int32) (h_dueDays : Nat → Int32) (h_contents : Nat → Int32) (a0 : Int32) (a1 : Int32) (u : Int32) (hf : f_X2_sortsBefore h_count h_pitches a0 a1 = some u) : cm l D (jT t) yX2_sortsBefore cX2_sortsBefore 4 (some FieldType.boolean) { frames := 1, cells := 0, slots := 0, locals := 21 } [.ref (ad o), .int a0, .int a1] (wH t ad o h_count h_pitches h_wears h_slots h_borrowers h_dueDays h_contents) (fun v w => v = (some (.int u)) ∧ w = wH t ad o h_count h_pitches h_wears h_slots h_borrowers h_dueDays h_contents) := by
  refine cm_of RX2 rfl (by decide +kernel) (Nat.le_of_ble_eq_true rfl) (fun X hX hE => ?_)
  change J X 0 0 (wH t ad o h_count h_pitches h_wears h_slots h_borrowers h_dueDays h_contents) 0 [(0, .ref (ad o)), (1, .int a0), (2, .int a1)] []
  unfold f_X2_sortsBefore at hf
  refine j_aload_n hX dX2_sortsBefore_0 rfl 0 rfl ?_
  refine j_iload_n hX dX2_sortsBefore_1 rfl 1 rfl ?_
  obtain ⟨u1, h2, hf⟩ := jbind hf
  refine j_callV (st := []) hX (k_X2_has (l := l) (D := D) (t := t) (ad := ad) (o := o) h_count h_pitches h_wears h_slots h_borrowers h_dueDays h_contents a0 u1 h2) q270 q263 q264 q3 q265 (n9 := 1) rfl ⟨by decide +kernel, by decide +kernel⟩ 0 rfl rfl rfl dX2_sortsBefore_2 (Nat.le_of_ble_eq_true rfl) ⟨Nat.le_refl _, Nat.le_refl _⟩ (fun w : va_W => w) jFr_id rfl rfl (fun v w hvw => ?_)
  obtain ⟨rfl, rfl⟩ := hvw
  change J X 0 0 (wH t ad o h_count h_pitches h_wears h_slots h_borrowers h_dueDays h_contents) 5 [(0, .ref (ad o)), (1, .int a0), (2, .int a1)] [.int u1]
  refine j_if_eq hX 16 dX2_sortsBefore_5 (by decide) hf (fun c5 hf => ?_) (fun c5 hf => ?_)
  · refine j_iconst hX 0 dX2_sortsBefore_16 (by decide) ?_
    cases hf
    exact j_zret hX hE rfl dX2_sortsBefore_17 (Nat.le_refl _) (Nat.le_refl _) ⟨rfl, rfl⟩
  · refine j_aload_n hX dX2_sortsBefore_8 rfl 0 rfl ?_
    refine j_iload_n hX dX2_sortsBefore_9 rfl 2 rfl ?_
    obtain ⟨u3, h4, hf⟩ := jbind hf
    refine j_callV (st := []) hX (k_X2_has (l := l) (D := D) (t := t) (ad := ad) (o := o) h_count h_pitches h_wears h_slots h_borrowers h_dueDays h_contents a1 u3 h4) q270 q263 q264 q3 q265 (n9 := 1) rfl ⟨by decide +kernel, by decide +kernel⟩ 0 rfl rfl rfl dX2_sortsBefore_10 (Nat.le_of_ble_eq_true rfl) ⟨Nat.le_refl _, Nat.le_refl _⟩ (fun w : va_W => w) jFr_id rfl rfl (fun v w hvw => ?_)
    obtain ⟨rfl, rfl⟩ := hvw
    change J X 0 0 (wH t ad o h_count h_pitches h_wears h_slots h_borrowers h_dueDays h_contents) 13 [(0, .ref (ad o)), (1, .int a0), (2, .int a1)] [.int u3]
    refine j_if_ne hX 18 dX2_sortsBefore_13 (by decide) hf (fun c13 hf => ?_) (fun c13 hf => ?_)
    · refine j_aload_n hX dX2_sortsBefore_18 rfl 0 rfl ?_
      refine j_get hX dX2_sortsBefore_19 inX2 1 q59 0 rfl rfl (by decide) rfl rfl ?_
      refine j_iload_n hX dX2_sortsBefore_22 rfl 1 rfl ?_
      refine j_iald hX dX2_sortsBefore_23 1 0 rfl rfl hf (fun c23 hf => ?_)
      refine j_aload_n hX dX2_sortsBefore_24 rfl 0 rfl ?_
      refine j_get hX dX2_sortsBefore_25 inX2 1 q59 0 rfl rfl (by decide) rfl rfl ?_
      refine j_iload_n hX dX2_sortsBefore_28 rfl 2 rfl ?_
      refine j_iald hX dX2_sortsBefore_29 1 0 rfl rfl hf (fun c29 hf => ?_)
      refine j_isub hX dX2_sortsBefore_30 ?_
      refine j_istore_n hX [(3, .int ((h_pitches (a0).toNatClampNeg) - (h_pitches (a1).toNatClampNeg))), (0, .ref (ad o)), (1, .int a0), (2, .int a1)] dX2_sortsBefore_31 rfl (by decide) rfl ?_
      refine j_iload_n hX dX2_sortsBefore_32 rfl 0 rfl ?_
      refine j_if_lt hX 45 dX2_sortsBefore_33 (by decide) hf (fun c33 hf => ?_) (fun c33 hf => ?_)
      · refine j_iconst hX 1 dX2_sortsBefore_45 (by decide) ?_
        refine j_goto hX 50 dX2_sortsBefore_46 (by decide) ?_
        cases hf
        exact j_zret hX hE rfl dX2_sortsBefore_50 (Nat.le_refl _) (Nat.le_refl _) ⟨rfl, rfl⟩
      · refine j_iload_n hX dX2_sortsBefore_36 rfl 0 rfl ?_
        refine j_if_ne hX 49 dX2_sortsBefore_37 (by decide) hf (fun c37 hf => ?_) (fun c37 hf => ?_)
        · refine j_iconst hX 0 dX2_sortsBefore_49 (by decide) ?_
          cases hf
          exact j_zret hX hE rfl dX2_sortsBefore_50 (Nat.le_refl _) (Nat.le_refl _) ⟨rfl, rfl⟩
        · refine j_iload_n hX dX2_sortsBefore_40 rfl 2 rfl ?_
          refine j_iload_n hX dX2_sortsBefore_41 rfl 3 rfl ?_
          refine j_icmp_ge hX 49 dX2_sortsBefore_42 (by decide) hf (fun c42 hf => ?_) (fun c42 hf => ?_)
          · refine j_iconst hX 0 dX2_sortsBefore_49 (by decide) ?_
            cases hf
            exact j_zret hX hE rfl dX2_sortsBefore_50 (Nat.le_refl _) (Nat.le_refl _) ⟨rfl, rfl⟩
          · refine j_iconst hX 1 dX2_sortsBefore_45 (by decide) ?_
            refine j_goto hX 50 dX2_sortsBefore_46 (by decide) ?_
            cases hf
            exact j_zret hX hE rfl dX2_sortsBefore_50 (Nat.le_refl _) (Nat.le_refl _) ⟨rfl, rfl⟩
    · refine j_iconst hX 0 dX2_sortsBefore_16 (by decide) ?_
      cases hf
      exact j_zret hX hE rfl dX2_sortsBefore_17 (Nat.le_refl _) (Nat.le_refl _) ⟨rfl, rfl⟩
-- HammerDepot$Hammers moreWorn (II)Z
def f_X2_moreWorn (h_count : Int32) (h_pitches : Nat → Int32) (h_wears : Nat → Int32) (a0 : Int32) (a1 : Int32) : Option (Int32) :=
  Option.bind (f_X2_wearOf h_count h_wears a0) (fun u1 =>
    Option.bind (f_X2_wearOf h_count h_wears a1) (fun u3 =>
      if 0 < (u1 - u3) then
        some 1
      else
        if (u1 - u3) = 0 then
          Option.bind (f_X2_sortsBefore h_count h_pitches a0 a1) (fun u5 =>
            if u5 = 0 then
              some 0
            else
              some 1)
        else
          some 0))
set_option maxHeartbeats 4000000 in
set_option maxRecDepth 100000 in
theorem k_X2_moreWorn {l : Launch} {D : va_G} {t : Nat → ClassId} {ad : Nat → Nat} {o : Nat} (h_count : Int32) (h_pitches : Nat → Int32) (h_wears : Nat → Int32) (h_slots : Nat → Int32) (h_borrowers : Nat → Int32) (h_dueDays : Nat → Int32) (h_contents : Nat → Int32) (a0 : Int32) (a1 : Int32) (u : Int32) (hf : f_X2_moreWorn h_count h_pitches h_wears a0 a1 = some u) : cm l D (jT t) yX2_moreWorn cX2_moreWorn 4 (some FieldType.boolean) { frames := 2, cells := 0, slots := 0, locals := 44 } [.ref (ad o), .int a0, .int a1] (wH t ad o h_count h_pitches h_wears h_slots h_borrowers h_dueDays h_contents) (fun v w => v = (some (.int u)) ∧ w = wH t ad o h_count h_pitches h_wears h_slots h_borrowers h_dueDays h_contents) := by
  refine cm_of RX2 rfl (by decide +kernel) (Nat.le_of_ble_eq_true rfl) (fun X hX hE => ?_)
  change J X 0 0 (wH t ad o h_count h_pitches h_wears h_slots h_borrowers h_dueDays h_contents) 0 [(0, .ref (ad o)), (1, .int a0), (2, .int a1)] []
  unfold f_X2_moreWorn at hf
  refine j_aload_n hX dX2_moreWorn_0 rfl 0 rfl ?_
  refine j_iload_n hX dX2_moreWorn_1 rfl 1 rfl ?_
  obtain ⟨u1, h2, hf⟩ := jbind hf
  refine j_callV (st := []) hX (k_X2_wearOf (l := l) (D := D) (t := t) (ad := ad) (o := o) h_count h_pitches h_wears h_slots h_borrowers h_dueDays h_contents a0 u1 h2) q1008 q283 q284 q3 q285 (n9 := 1) rfl ⟨by decide +kernel, by decide +kernel⟩ 0 rfl rfl rfl dX2_moreWorn_2 (Nat.le_of_ble_eq_true rfl) ⟨Nat.le_refl _, Nat.le_refl _⟩ (fun w : va_W => w) jFr_id rfl rfl (fun v w hvw => ?_)
  obtain ⟨rfl, rfl⟩ := hvw
  change J X 0 0 (wH t ad o h_count h_pitches h_wears h_slots h_borrowers h_dueDays h_contents) 5 [(0, .ref (ad o)), (1, .int a0), (2, .int a1)] [.int u1]
  refine j_aload_n hX dX2_moreWorn_5 rfl 0 rfl ?_
  refine j_iload_n hX dX2_moreWorn_6 rfl 2 rfl ?_
  obtain ⟨u3, h4, hf⟩ := jbind hf
  refine j_callV (st := [.int u1]) hX (k_X2_wearOf (l := l) (D := D) (t := t) (ad := ad) (o := o) h_count h_pitches h_wears h_slots h_borrowers h_dueDays h_contents a1 u3 h4) q1008 q283 q284 q3 q285 (n9 := 1) rfl ⟨by decide +kernel, by decide +kernel⟩ 0 rfl rfl rfl dX2_moreWorn_7 (Nat.le_of_ble_eq_true rfl) ⟨Nat.le_refl _, Nat.le_refl _⟩ (fun w : va_W => w) jFr_id rfl rfl (fun v w hvw => ?_)
  obtain ⟨rfl, rfl⟩ := hvw
  change J X 0 0 (wH t ad o h_count h_pitches h_wears h_slots h_borrowers h_dueDays h_contents) 10 [(0, .ref (ad o)), (1, .int a0), (2, .int a1)] [.int u3, .int u1]
  refine j_isub hX dX2_moreWorn_10 ?_
  refine j_istore_n hX [(3, .int (u1 - u3)), (0, .ref (ad o)), (1, .int a0), (2, .int a1)] dX2_moreWorn_11 rfl (by decide) rfl ?_
  refine j_iload_n hX dX2_moreWorn_12 rfl 0 rfl ?_
  refine j_if_gt hX 29 dX2_moreWorn_13 (by decide) hf (fun c13 hf => ?_) (fun c13 hf => ?_)
  · refine j_iconst hX 1 dX2_moreWorn_29 (by decide) ?_
    refine j_goto hX 34 dX2_moreWorn_30 (by decide) ?_
    cases hf
    exact j_zret hX hE rfl dX2_moreWorn_34 (Nat.le_refl _) (Nat.le_refl _) ⟨rfl, rfl⟩
  · refine j_iload_n hX dX2_moreWorn_16 rfl 0 rfl ?_
    refine j_if_ne hX 33 dX2_moreWorn_17 (by decide) hf (fun c17 hf => ?_) (fun c17 hf => ?_)
    · refine j_iconst hX 0 dX2_moreWorn_33 (by decide) ?_
      cases hf
      exact j_zret hX hE rfl dX2_moreWorn_34 (Nat.le_refl _) (Nat.le_refl _) ⟨rfl, rfl⟩
    · refine j_aload_n hX dX2_moreWorn_20 rfl 1 rfl ?_
      refine j_iload_n hX dX2_moreWorn_21 rfl 2 rfl ?_
      refine j_iload_n hX dX2_moreWorn_22 rfl 3 rfl ?_
      obtain ⟨u5, h6, hf⟩ := jbind hf
      refine j_callV (st := []) hX (k_X2_sortsBefore (l := l) (D := D) (t := t) (ad := ad) (o := o) h_count h_pitches h_wears h_slots h_borrowers h_dueDays h_contents a0 a1 u5 h6) q1009 q553 q554 q3 q555 (n9 := 2) rfl ⟨by decide +kernel, by decide +kernel⟩ 0 rfl rfl rfl dX2_moreWorn_23 (Nat.le_of_ble_eq_true rfl) ⟨Nat.le_refl _, Nat.le_refl _⟩ (fun w : va_W => w) jFr_id rfl rfl (fun v w hvw => ?_)
      obtain ⟨rfl, rfl⟩ := hvw
      change J X 0 0 (wH t ad o h_count h_pitches h_wears h_slots h_borrowers h_dueDays h_contents) 26 [(3, .int (u1 - u3)), (0, .ref (ad o)), (1, .int a0), (2, .int a1)] [.int u5]
      refine j_if_eq hX 33 dX2_moreWorn_26 (by decide) hf (fun c26 hf => ?_) (fun c26 hf => ?_)
      · refine j_iconst hX 0 dX2_moreWorn_33 (by decide) ?_
        cases hf
        exact j_zret hX hE rfl dX2_moreWorn_34 (Nat.le_refl _) (Nat.le_refl _) ⟨rfl, rfl⟩
      · refine j_iconst hX 1 dX2_moreWorn_29 (by decide) ?_
        refine j_goto hX 34 dX2_moreWorn_30 (by decide) ?_
        cases hf
        exact j_zret hX hE rfl dX2_moreWorn_34 (Nat.le_refl _) (Nat.le_refl _) ⟨rfl, rfl⟩
-- HammerDepot$Hammers byWear (I)I
def f_X2_byWear_L15 (h_count : Int32) (h_pitches : Nat → Int32) (h_wears : Nat → Int32) (x2 : Int32) : Nat → Int32 → Int32 → Option (Int32 × Int32)
  | 0, _, _ => none
  | jn + 1, x4, x3 =>
    if h_count ≤ x4 then
      some (x4, x3)
    else
      Option.bind (f_X2_moreWorn h_count h_pitches h_wears x4 x2) (fun u1 =>
        if u1 = 0 then
          f_X2_byWear_L15 h_count h_pitches h_wears x2 jn (x4 + 1) x3
        else
          f_X2_byWear_L15 h_count h_pitches h_wears x2 jn (x4 + 1) (x3 + 1))
def f_X2_byWear_L2 (h_count : Int32) (h_pitches : Nat → Int32) (h_wears : Nat → Int32) (x1 : Int32) : Nat → Int32 → Option ((Int32) ⊕ (Int32))
  | 0, _ => none
  | jn + 1, x2 =>
    if h_count ≤ x2 then
      some (.inr x2)
    else
      Option.bind (f_X2_byWear_L15 h_count h_pitches h_wears x2 jFU 0 0) (fun s4 =>
        if s4.2 = x1 then
          some (.inl x2)
        else
          f_X2_byWear_L2 h_count h_pitches h_wears x1 jn (x2 + 1))
def f_X2_byWear (h_count : Int32) (h_pitches : Nat → Int32) (h_wears : Nat → Int32) (a0 : Int32) : Option (Int32) :=
  Option.bind (f_X2_byWear_L2 h_count h_pitches h_wears a0 jFU 0) (fun o6 => Sum.elim (fun r => some r) (fun s7 =>
    some (-1)) o6)
set_option maxHeartbeats 4000000 in
set_option maxRecDepth 100000 in
theorem k_X2_byWear_L15 {l : Launch} {D : va_G} {t : Nat → ClassId} {ad : Nat → Nat} {o : Nat} (h_count : Int32) (h_pitches : Nat → Int32) (h_wears : Nat → Int32) (x2 : Int32) (h_slots : Nat → Int32) (h_borrowers : Nat → Int32) (h_dueDays : Nat → Int32) (h_contents : Nat → Int32) (x1 : Int32) {X : jX} (hX : jOK X l D (jT t) cX2_byWear RX2 (some FieldType.int) { frames := 3, cells := 0, slots := 0, locals := 67 } 5) :
    ∀ (jn : Nat) (x4 : Int32) (x3 : Int32) (u : Int32 × Int32) (hf : f_X2_byWear_L15 h_count h_pitches h_wears x2 jn x4 x3 = some u) (kx : ∀ s : Int32 × Int32, u = s → J X 0 0 (wH t ad o h_count h_pitches h_wears h_slots h_borrowers h_dueDays h_contents) 43 [(4, .int s.1), (3, .int s.2), (2, .int x2), (0, .ref (ad o)), (1, .int x1)] []), J X 0 0 (wH t ad o h_count h_pitches h_wears h_slots h_borrowers h_dueDays h_contents) 15 [(4, .int x4), (3, .int x3), (2, .int x2), (0, .ref (ad o)), (1, .int x1)] [] := by
  intro jn
  induction jn with
  | zero => intro x4 x3 u hf; cases (show (none : Option (Int32 × Int32)) = some u from hf)
  | succ jn ih =>
    intro x4 x3 u hf kx
    unfold f_X2_byWear_L15 at hf
    refine j_iload hX dX2_byWear_15 0 rfl ?_
    refine j_aload_n hX dX2_byWear_17 rfl 3 rfl ?_
    refine j_get hX dX2_byWear_18 inX2 0 q58 0 rfl rfl (by decide) rfl rfl ?_
    refine j_icmp_ge hX 43 dX2_byWear_21 (by decide) hf (fun c21 hf => ?_) (fun c21 hf => ?_)
    · cases hf
      exact kx _ rfl
    · refine j_aload_n hX dX2_byWear_24 rfl 3 rfl ?_
      refine j_iload hX dX2_byWear_25 0 rfl ?_
      refine j_iload_n hX dX2_byWear_27 rfl 2 rfl ?_
      obtain ⟨u1, h2, hf⟩ := jbind hf
      refine j_callV (st := []) hX (k_X2_moreWorn (l := l) (D := D) (t := t) (ad := ad) (o := o) h_count h_pitches h_wears h_slots h_borrowers h_dueDays h_contents x4 x2 u1 h2) q1005 q1006 q1939 q3 q1007 (n9 := 2) rfl ⟨by decide +kernel, by decide +kernel⟩ 0 rfl rfl rfl dX2_byWear_28 (Nat.le_of_ble_eq_true rfl) ⟨Nat.le_refl _, Nat.le_refl _⟩ (fun w : va_W => w) jFr_id rfl rfl (fun v w hvw => ?_)
      obtain ⟨rfl, rfl⟩ := hvw
      change J X 0 0 (wH t ad o h_count h_pitches h_wears h_slots h_borrowers h_dueDays h_contents) 31 [(4, .int x4), (3, .int x3), (2, .int x2), (0, .ref (ad o)), (1, .int x1)] [.int u1]
      refine j_if_eq hX 37 dX2_byWear_31 (by decide) hf (fun c31 hf => ?_) (fun c31 hf => ?_)
      · refine j_iinc hX (x4 + 1) [(4, .int (x4 + 1)), (3, .int x3), (2, .int x2), (0, .ref (ad o)), (1, .int x1)] dX2_byWear_37 0 rfl rfl (by decide) rfl ?_
        refine j_goto hX 15 dX2_byWear_40 (by decide) ?_
        exact ih (x4 + 1) x3 u hf kx
      · refine j_iinc hX (x3 + 1) [(3, .int (x3 + 1)), (4, .int x4), (2, .int x2), (0, .ref (ad o)), (1, .int x1)] dX2_byWear_34 1 rfl rfl (by decide) rfl ?_
        refine j_iinc hX (x4 + 1) [(4, .int (x4 + 1)), (3, .int (x3 + 1)), (2, .int x2), (0, .ref (ad o)), (1, .int x1)] dX2_byWear_37 1 rfl rfl (by decide) rfl ?_
        refine j_goto hX 15 dX2_byWear_40 (by decide) ?_
        exact ih (x4 + 1) (x3 + 1) u hf kx
set_option maxHeartbeats 4000000 in
set_option maxRecDepth 100000 in
theorem k_X2_byWear_L2 {l : Launch} {D : va_G} {t : Nat → ClassId} {ad : Nat → Nat} {o : Nat} (h_count : Int32) (h_pitches : Nat → Int32) (h_wears : Nat → Int32) (x1 : Int32) (h_slots : Nat → Int32) (h_borrowers : Nat → Int32) (h_dueDays : Nat → Int32) (h_contents : Nat → Int32) {X : jX} (hX : jOK X l D (jT t) cX2_byWear RX2 (some FieldType.int) { frames := 3, cells := 0, slots := 0, locals := 67 } 5) {PP : Option Value → va_W → Prop} (hE : jEnd X PP 0 0) :
    ∀ (jn : Nat) (x2 : Int32) (u : (Int32) ⊕ (Int32)) (hf : f_X2_byWear_L2 h_count h_pitches h_wears x1 jn x2 = some u) (kx : ∀ s : Int32, u = .inr s → J X 0 0 (wH t ad o h_count h_pitches h_wears h_slots h_borrowers h_dueDays h_contents) 56 [(2, .int s), (0, .ref (ad o)), (1, .int x1)] []) (kr : ∀ r : Int32, u = .inl r → PP (some (.int r)) (wH t ad o h_count h_pitches h_wears h_slots h_borrowers h_dueDays h_contents)), J X 0 0 (wH t ad o h_count h_pitches h_wears h_slots h_borrowers h_dueDays h_contents) 2 [(2, .int x2), (0, .ref (ad o)), (1, .int x1)] [] := by
  intro jn
  induction jn with
  | zero => intro x2 u hf; cases (show (none : Option ((Int32) ⊕ (Int32))) = some u from hf)
  | succ jn ih =>
    intro x2 u hf kx kr
    unfold f_X2_byWear_L2 at hf
    refine j_iload_n hX dX2_byWear_2 rfl 0 rfl ?_
    refine j_aload_n hX dX2_byWear_3 rfl 1 rfl ?_
    refine j_get hX dX2_byWear_4 inX2 0 q58 0 rfl rfl (by decide) rfl rfl ?_
    refine j_icmp_ge hX 56 dX2_byWear_7 (by decide) hf (fun c7 hf => ?_) (fun c7 hf => ?_)
    · cases hf
      exact kx _ rfl
    · refine j_iconst hX 0 dX2_byWear_10 (by decide) ?_
      refine j_istore_n hX [(3, .int 0), (2, .int x2), (0, .ref (ad o)), (1, .int x1)] dX2_byWear_11 rfl (by decide) rfl ?_
      refine j_iconst hX 0 dX2_byWear_12 (by decide) ?_
      refine j_istore hX [(4, .int 0), (3, .int 0), (2, .int x2), (0, .ref (ad o)), (1, .int x1)] dX2_byWear_13 (by decide) rfl ?_
      obtain ⟨s4, h5, hf⟩ := jbind hf
      refine k_X2_byWear_L15 (ad := ad) h_count h_pitches h_wears x2 h_slots h_borrowers h_dueDays h_contents x1 hX jFU 0 0 s4 h5 (fun s40 es4 => ?_)
      subst es4
      refine j_iload_n hX dX2_byWear_43 rfl 1 rfl ?_
      refine j_iload_n hX dX2_byWear_44 rfl 4 rfl ?_
      refine j_icmp_ne hX 50 dX2_byWear_45 (by decide) hf (fun c45 hf => ?_) (fun c45 hf => ?_)
      · refine j_iinc hX (x2 + 1) [(2, .int (x2 + 1)), (4, .int s4.1), (3, .int s4.2), (0, .ref (ad o)), (1, .int x1)] dX2_byWear_50 2 rfl rfl (by decide) rfl ?_
        refine j_goto hX 2 dX2_byWear_53 (by decide) ?_
        refine j_sub hX [(2, .int (x2 + 1)), (0, .ref (ad o)), (1, .int x1)] [0, 3, 4] rfl ?_
        exact ih (x2 + 1) u hf kx kr
      · refine j_iload_n hX dX2_byWear_48 rfl 2 rfl ?_
        cases hf
        exact j_iret hX hE dX2_byWear_49 (Nat.le_refl _) (Nat.le_refl _) (kr _ rfl)
set_option maxHeartbeats 4000000 in
set_option maxRecDepth 100000 in
theorem k_X2_byWear {l : Launch} {D : va_G} {t : Nat → ClassId} {ad : Nat → Nat} {o : Nat} (h_count : Int32) (h_pitches : Nat → Int32) (h_wears : Nat → Int32) (h_slots : Nat → Int32) (h_borrowers : Nat → Int32) (h_dueDays : Nat → Int32) (h_contents : Nat → Int32) (a0 : Int32) (u : Int32) (hf : f_X2_byWear h_count h_pitches h_wears a0 = some u) : cm l D (jT t) yX2_byWear cX2_byWear 5 (some FieldType.int) { frames := 3, cells := 0, slots := 0, locals := 67 } [.ref (ad o), .int a0] (wH t ad o h_count h_pitches h_wears h_slots h_borrowers h_dueDays h_contents) (fun v w => v = (some (.int u)) ∧ w = wH t ad o h_count h_pitches h_wears h_slots h_borrowers h_dueDays h_contents) := by
  refine cm_of RX2 rfl (by decide +kernel) (Nat.le_of_ble_eq_true rfl) (fun X hX hE => ?_)
  change J X 0 0 (wH t ad o h_count h_pitches h_wears h_slots h_borrowers h_dueDays h_contents) 0 [(0, .ref (ad o)), (1, .int a0)] []
  unfold f_X2_byWear at hf
  refine j_iconst hX 0 dX2_byWear_0 (by decide) ?_
  refine j_istore_n hX [(2, .int 0), (0, .ref (ad o)), (1, .int a0)] dX2_byWear_1 rfl (by decide) rfl ?_
  obtain ⟨o6, h8, hf⟩ := jbind hf
  refine k_X2_byWear_L2 (ad := ad) h_count h_pitches h_wears a0 h_slots h_borrowers h_dueDays h_contents hX hE jFU 0 o6 h8 (fun s7 es7 => ?_) (fun r er => ?_)
  · subst es7
    have hf := jsum_r hf
    refine j_iconst hX (-1) dX2_byWear_56 (by decide) ?_
    cases hf
    exact j_iret hX hE dX2_byWear_57 (Nat.le_refl _) (Nat.le_refl _) ⟨rfl, rfl⟩
  · subst er
    cases hf
    exact ⟨rfl, rfl⟩
-- HammerDepot$Hammers lieWhereTheyShould ()Z
def f_X2_lieWhereTheyShould_L2 (h_count : Int32) (h_slots : Nat → Int32) (h_contents : Nat → Int32) : Nat → Int32 → Option ((Int32) ⊕ (Int32))
  | 0, _ => none
  | jn + 1, x1 =>
    if 18 ≤ x1 then
      some (.inr x1)
    else
      if jin x1 18 = true then
        if (h_contents (x1).toNatClampNeg) = (-1) then
          f_X2_lieWhereTheyShould_L2 h_count h_slots h_contents jn (x1 + 1)
        else
          Option.bind (f_X2_slotOf h_count h_slots (h_contents (x1).toNatClampNeg)) (fun u1 =>
            if u1 = x1 then
              f_X2_lieWhereTheyShould_L2 h_count h_slots h_contents jn (x1 + 1)
            else
              some (.inl 0))
      else none
def f_X2_lieWhereTheyShould (h_count : Int32) (h_slots : Nat → Int32) (h_contents : Nat → Int32) : Option (Int32) :=
  Option.bind (f_X2_lieWhereTheyShould_L2 h_count h_slots h_contents jFU 0) (fun o3 => Sum.elim (fun r => some r) (fun s4 =>
    some 1) o3)
set_option maxHeartbeats 4000000 in
set_option maxRecDepth 100000 in
theorem k_X2_lieWhereTheyShould_L2 {l : Launch} {D : va_G} {t : Nat → ClassId} {ad : Nat → Nat} {o : Nat} (h_count : Int32) (h_slots : Nat → Int32) (h_contents : Nat → Int32) (h_pitches : Nat → Int32) (h_wears : Nat → Int32) (h_borrowers : Nat → Int32) (h_dueDays : Nat → Int32) {X : jX} (hX : jOK X l D (jT t) cX2_lieWhereTheyShould RX2 (some FieldType.boolean) { frames := 2, cells := 0, slots := 0, locals := 42 } 3) {PP : Option Value → va_W → Prop} (hE : jEnd X PP 0 0) :
    ∀ (jn : Nat) (x1 : Int32) (u : (Int32) ⊕ (Int32)) (hf : f_X2_lieWhereTheyShould_L2 h_count h_slots h_contents jn x1 = some u) (kx : ∀ s : Int32, u = .inr s → J X 0 0 (wH t ad o h_count h_pitches h_wears h_slots h_borrowers h_dueDays h_contents) 40 [(1, .int s), (0, .ref (ad o))] []) (kr : ∀ r : Int32, u = .inl r → PP (some (.int r)) (wH t ad o h_count h_pitches h_wears h_slots h_borrowers h_dueDays h_contents)), J X 0 0 (wH t ad o h_count h_pitches h_wears h_slots h_borrowers h_dueDays h_contents) 2 [(1, .int x1), (0, .ref (ad o))] [] := by
  intro jn
  induction jn with
  | zero => intro x1 u hf; cases (show (none : Option ((Int32) ⊕ (Int32))) = some u from hf)
  | succ jn ih =>
    intro x1 u hf kx kr
    unfold f_X2_lieWhereTheyShould_L2 at hf
    refine j_iload_n hX dX2_lieWhereTheyShould_2 rfl 0 rfl ?_
    refine j_aload_n hX dX2_lieWhereTheyShould_3 rfl 1 rfl ?_
    refine j_get hX dX2_lieWhereTheyShould_4 inX2 6 q64 0 rfl rfl (by decide) rfl rfl ?_
    refine j_alen hX 18 dX2_lieWhereTheyShould_7 6 0 rfl rfl rfl ?_
    refine j_icmp_ge hX 40 dX2_lieWhereTheyShould_8 (by decide) hf (fun c8 hf => ?_) (fun c8 hf => ?_)
    · cases hf
      exact kx _ rfl
    · refine j_aload_n hX dX2_lieWhereTheyShould_11 rfl 1 rfl ?_
      refine j_get hX dX2_lieWhereTheyShould_12 inX2 6 q64 0 rfl rfl (by decide) rfl rfl ?_
      refine j_iload_n hX dX2_lieWhereTheyShould_15 rfl 0 rfl ?_
      refine j_iald hX dX2_lieWhereTheyShould_16 6 0 rfl rfl hf (fun c16 hf => ?_)
      refine j_istore_n hX [(2, .int (h_contents (x1).toNatClampNeg)), (1, .int x1), (0, .ref (ad o))] dX2_lieWhereTheyShould_17 rfl (by decide) rfl ?_
      refine j_iload_n hX dX2_lieWhereTheyShould_18 rfl 0 rfl ?_
      refine j_iconst hX (-1) dX2_lieWhereTheyShould_19 (by decide) ?_
      refine j_icmp_eq hX 34 dX2_lieWhereTheyShould_20 (by decide) hf (fun c20 hf => ?_) (fun c20 hf => ?_)
      · refine j_iinc hX (x1 + 1) [(1, .int (x1 + 1)), (2, .int (h_contents (x1).toNatClampNeg)), (0, .ref (ad o))] dX2_lieWhereTheyShould_34 1 rfl rfl (by decide) rfl ?_
        refine j_goto hX 2 dX2_lieWhereTheyShould_37 (by decide) ?_
        refine j_sub hX [(1, .int (x1 + 1)), (0, .ref (ad o))] [0, 2] rfl ?_
        exact ih (x1 + 1) u hf kx kr
      · refine j_aload_n hX dX2_lieWhereTheyShould_23 rfl 2 rfl ?_
        refine j_iload_n hX dX2_lieWhereTheyShould_24 rfl 0 rfl ?_
        obtain ⟨u1, h2, hf⟩ := jbind hf
        refine j_callV (st := []) hX (k_X2_slotOf (l := l) (D := D) (t := t) (ad := ad) (o := o) h_count h_pitches h_wears h_slots h_borrowers h_dueDays h_contents (h_contents (x1).toNatClampNeg) u1 h2) q586 q587 q588 q3 q589 (n9 := 1) rfl ⟨by decide +kernel, by decide +kernel⟩ 0 rfl rfl rfl dX2_lieWhereTheyShould_25 (Nat.le_of_ble_eq_true rfl) ⟨Nat.le_refl _, Nat.le_refl _⟩ (fun w : va_W => w) jFr_id rfl rfl (fun v w hvw => ?_)
        obtain ⟨rfl, rfl⟩ := hvw
        change J X 0 0 (wH t ad o h_count h_pitches h_wears h_slots h_borrowers h_dueDays h_contents) 28 [(2, .int (h_contents (x1).toNatClampNeg)), (1, .int x1), (0, .ref (ad o))] [.int u1]
        refine j_iload_n hX dX2_lieWhereTheyShould_28 rfl 1 rfl ?_
        refine j_icmp_eq hX 34 dX2_lieWhereTheyShould_29 (by decide) hf (fun c29 hf => ?_) (fun c29 hf => ?_)
        · refine j_iinc hX (x1 + 1) [(1, .int (x1 + 1)), (2, .int (h_contents (x1).toNatClampNeg)), (0, .ref (ad o))] dX2_lieWhereTheyShould_34 1 rfl rfl (by decide) rfl ?_
          refine j_goto hX 2 dX2_lieWhereTheyShould_37 (by decide) ?_
          refine j_sub hX [(1, .int (x1 + 1)), (0, .ref (ad o))] [0, 2] rfl ?_
          exact ih (x1 + 1) u hf kx kr
        · refine j_iconst hX 0 dX2_lieWhereTheyShould_32 (by decide) ?_
          cases hf
          exact j_zret hX hE rfl dX2_lieWhereTheyShould_33 (Nat.le_refl _) (Nat.le_refl _) (kr _ rfl)
set_option maxHeartbeats 4000000 in
set_option maxRecDepth 100000 in
theorem k_X2_lieWhereTheyShould {l : Launch} {D : va_G} {t : Nat → ClassId} {ad : Nat → Nat} {o : Nat} (h_count : Int32) (h_pitches : Nat → Int32) (h_wears : Nat → Int32) (h_slots : Nat → Int32) (h_borrowers : Nat → Int32) (h_dueDays : Nat → Int32) (h_contents : Nat → Int32)  (u : Int32) (hf : f_X2_lieWhereTheyShould h_count h_slots h_contents = some u) : cm l D (jT t) yX2_lieWhereTheyShould cX2_lieWhereTheyShould 3 (some FieldType.boolean) { frames := 2, cells := 0, slots := 0, locals := 42 } [.ref (ad o)] (wH t ad o h_count h_pitches h_wears h_slots h_borrowers h_dueDays h_contents) (fun v w => v = (some (.int u)) ∧ w = wH t ad o h_count h_pitches h_wears h_slots h_borrowers h_dueDays h_contents) := by
  refine cm_of RX2 rfl (by decide +kernel) (Nat.le_of_ble_eq_true rfl) (fun X hX hE => ?_)
  change J X 0 0 (wH t ad o h_count h_pitches h_wears h_slots h_borrowers h_dueDays h_contents) 0 [(0, .ref (ad o))] []
  unfold f_X2_lieWhereTheyShould at hf
  refine j_iconst hX 0 dX2_lieWhereTheyShould_0 (by decide) ?_
  refine j_istore_n hX [(1, .int 0), (0, .ref (ad o))] dX2_lieWhereTheyShould_1 rfl (by decide) rfl ?_
  obtain ⟨o3, h5, hf⟩ := jbind hf
  refine k_X2_lieWhereTheyShould_L2 (ad := ad) h_count h_slots h_contents h_pitches h_wears h_borrowers h_dueDays hX hE jFU 0 o3 h5 (fun s4 es4 => ?_) (fun r er => ?_)
  · subst es4
    have hf := jsum_r hf
    refine j_iconst hX 1 dX2_lieWhereTheyShould_40 (by decide) ?_
    cases hf
    exact j_zret hX hE rfl dX2_lieWhereTheyShould_41 (Nat.le_refl _) (Nat.le_refl _) ⟨rfl, rfl⟩
  · subst er
    cases hf
    exact ⟨rfl, rfl⟩

-- HammerDepot$Requests copyFrom (LHammerDepot$Requests;)V
def f_X5_copyFrom (r_count : Int32) (r_nextId : Int32) (r_ids : Nat → Int32) (r_borrowers : Nat → Int32) (r_pitches : Nat → Int32) (r_tolerances : Nat → Int32) (r_firstDays : Nat → Int32) (r_lastDays : Nat → Int32) (nr_count : Int32) (nr_nextId : Int32) (nr_ids : Nat → Int32) (nr_borrowers : Nat → Int32) (nr_pitches : Nat → Int32) (nr_tolerances : Nat → Int32) (nr_firstDays : Nat → Int32) (nr_lastDays : Nat → Int32) : Option (Int32 × Int32 × (Nat → Int32) × (Nat → Int32) × (Nat → Int32) × (Nat → Int32) × (Nat → Int32) × (Nat → Int32)) :=
  if jcp 0 0 8 8 8 = true then
    if jcp 0 0 8 8 8 = true then
      if jcp 0 0 8 8 8 = true then
        if jcp 0 0 8 8 8 = true then
          if jcp 0 0 8 8 8 = true then
            if jcp 0 0 8 8 8 = true then
              some (nr_count, nr_nextId, va_cpy nr_ids r_ids (0 : Int32).toNatClampNeg (0 : Int32).toNatClampNeg (8 : Int32).toNatClampNeg, va_cpy nr_borrowers r_borrowers (0 : Int32).toNatClampNeg (0 : Int32).toNatClampNeg (8 : Int32).toNatClampNeg, va_cpy nr_pitches r_pitches (0 : Int32).toNatClampNeg (0 : Int32).toNatClampNeg (8 : Int32).toNatClampNeg, va_cpy nr_tolerances r_tolerances (0 : Int32).toNatClampNeg (0 : Int32).toNatClampNeg (8 : Int32).toNatClampNeg, va_cpy nr_firstDays r_firstDays (0 : Int32).toNatClampNeg (0 : Int32).toNatClampNeg (8 : Int32).toNatClampNeg, va_cpy nr_lastDays r_lastDays (0 : Int32).toNatClampNeg (0 : Int32).toNatClampNeg (8 : Int32).toNatClampNeg)
            else none
          else none
        else none
      else none
    else none
  else none
set_option maxHeartbeats 4000000 in
set_option maxRecDepth 100000 in
theorem k_X5_copyFrom {l : Launch} {D : va_G} {t : Nat → ClassId} {ad : Nat → Nat} {o o2 : Nat} (r_count : Int32) (r_nextId : Int32) (r_ids : Nat → Int32) (r_borrowers : Nat → Int32) (r_pitches : Nat → Int32) (r_tolerances : Nat → Int32) (r_firstDays : Nat → Int32) (r_lastDays : Nat → Int32) (nr_count : Int32) (nr_nextId : Int32) (nr_ids : Nat → Int32) (nr_borrowers : Nat → Int32) (nr_pitches : Nat → Int32) (nr_tolerances : Nat → Int32) (nr_firstDays : Nat → Int32) (nr_lastDays : Nat → Int32)  (u : Int32 × Int32 × (Nat → Int32) × (Nat → Int32) × (Nat → Int32) × (Nat → Int32) × (Nat → Int32) × (Nat → Int32)) (hf : f_X5_copyFrom r_count r_nextId r_ids r_borrowers r_pitches r_tolerances r_firstDays r_lastDays nr_count nr_nextId nr_ids nr_borrowers nr_pitches nr_tolerances nr_firstDays nr_lastDays = some u) : cm l D (jT t) yX5_copyFrom cX5_copyFrom 2 none { frames := 1, cells := 0, slots := 0, locals := 60 } [.ref (ad o), .ref (ad o2)] (wR t ad o r_count r_nextId r_ids r_borrowers r_pitches r_tolerances r_firstDays r_lastDays ++ (wR t ad o2 nr_count nr_nextId nr_ids nr_borrowers nr_pitches nr_tolerances nr_firstDays nr_lastDays)) (fun v w => v = none ∧ w = wR t ad o u.1 u.2.1 u.2.2.1 u.2.2.2.1 u.2.2.2.2.1 u.2.2.2.2.2.1 u.2.2.2.2.2.2.1 u.2.2.2.2.2.2.2 ++ (wR t ad o2 nr_count nr_nextId nr_ids nr_borrowers nr_pitches nr_tolerances nr_firstDays nr_lastDays)) := by
  refine cm_of RX5 rfl (by decide +kernel) (Nat.le_of_ble_eq_true rfl) (fun X hX hE => ?_)
  change J X 0 0 (wR t ad o r_count r_nextId r_ids r_borrowers r_pitches r_tolerances r_firstDays r_lastDays ++ (wR t ad o2 nr_count nr_nextId nr_ids nr_borrowers nr_pitches nr_tolerances nr_firstDays nr_lastDays)) 0 [(0, .ref (ad o)), (1, .ref (ad o2))] []
  unfold f_X5_copyFrom at hf
  refine j_aload_n hX dX5_copyFrom_0 rfl 0 rfl ?_
  refine j_aload_n hX dX5_copyFrom_1 rfl 1 rfl ?_
  refine j_get hX dX5_copyFrom_2 inX5 0 q71 7 rfl rfl (by decide) rfl rfl ?_
  refine j_put hX (wR t ad o nr_count r_nextId r_ids r_borrowers r_pitches r_tolerances r_firstDays r_lastDays ++ (wR t ad o2 nr_count nr_nextId nr_ids nr_borrowers nr_pitches nr_tolerances nr_firstDays nr_lastDays)) tyX5 dX5_copyFrom_5 inX5 tyX5_ok nmX5 0 q71 0 rfl rfl (by decide) rfl rfl rfl rfl rfl (Nat.le_of_ble_eq_true rfl) rfl ?_
  refine j_aload_n hX dX5_copyFrom_8 rfl 0 rfl ?_
  refine j_aload_n hX dX5_copyFrom_9 rfl 1 rfl ?_
  refine j_get hX dX5_copyFrom_10 inX5 1 q72 7 rfl rfl (by decide) rfl rfl ?_
  refine j_put hX (wR t ad o nr_count nr_nextId r_ids r_borrowers r_pitches r_tolerances r_firstDays r_lastDays ++ (wR t ad o2 nr_count nr_nextId nr_ids nr_borrowers nr_pitches nr_tolerances nr_firstDays nr_lastDays)) tyX5 dX5_copyFrom_13 inX5 tyX5_ok nmX5 1 q72 0 rfl rfl (by decide) rfl rfl rfl rfl rfl (Nat.le_of_ble_eq_true rfl) rfl ?_
  refine j_aload_n hX dX5_copyFrom_16 rfl 1 rfl ?_
  refine j_get hX dX5_copyFrom_17 inX5 2 q73 7 rfl rfl (by decide) rfl rfl ?_
  refine j_iconst hX 0 dX5_copyFrom_20 (by decide) ?_
  refine j_aload_n hX dX5_copyFrom_21 rfl 0 rfl ?_
  refine j_get hX dX5_copyFrom_22 inX5 2 q73 0 rfl rfl (by decide) rfl rfl ?_
  refine j_iconst hX 0 dX5_copyFrom_25 (by decide) ?_
  refine j_bipush hX 8 dX5_copyFrom_26 (by decide) ?_
  refine j_copyi hX (wR t ad o nr_count nr_nextId (va_cpy nr_ids r_ids (0 : Int32).toNatClampNeg (0 : Int32).toNatClampNeg (8 : Int32).toNatClampNeg) r_borrowers r_pitches r_tolerances r_firstDays r_lastDays ++ (wR t ad o2 nr_count nr_nextId nr_ids nr_borrowers nr_pitches nr_tolerances nr_firstDays nr_lastDays)) q215 dX5_copyFrom_28 8 1 0 rfl rfl rfl rfl rfl hf (Nat.le_of_ble_eq_true rfl) (by decide +kernel) (fun c28 hf => ?_)
  refine j_aload_n hX dX5_copyFrom_31 rfl 1 rfl ?_
  refine j_get hX dX5_copyFrom_32 inX5 3 q74 7 rfl rfl (by decide) rfl rfl ?_
  refine j_iconst hX 0 dX5_copyFrom_35 (by decide) ?_
  refine j_aload_n hX dX5_copyFrom_36 rfl 0 rfl ?_
  refine j_get hX dX5_copyFrom_37 inX5 3 q74 0 rfl rfl (by decide) rfl rfl ?_
  refine j_iconst hX 0 dX5_copyFrom_40 (by decide) ?_
  refine j_bipush hX 8 dX5_copyFrom_41 (by decide) ?_
  refine j_copyi hX (wR t ad o nr_count nr_nextId (va_cpy nr_ids r_ids (0 : Int32).toNatClampNeg (0 : Int32).toNatClampNeg (8 : Int32).toNatClampNeg) (va_cpy nr_borrowers r_borrowers (0 : Int32).toNatClampNeg (0 : Int32).toNatClampNeg (8 : Int32).toNatClampNeg) r_pitches r_tolerances r_firstDays r_lastDays ++ (wR t ad o2 nr_count nr_nextId nr_ids nr_borrowers nr_pitches nr_tolerances nr_firstDays nr_lastDays)) q215 dX5_copyFrom_43 9 2 0 rfl rfl rfl rfl rfl hf (Nat.le_of_ble_eq_true rfl) (by decide +kernel) (fun c43 hf => ?_)
  refine j_aload_n hX dX5_copyFrom_46 rfl 1 rfl ?_
  refine j_get hX dX5_copyFrom_47 inX5 4 q75 7 rfl rfl (by decide) rfl rfl ?_
  refine j_iconst hX 0 dX5_copyFrom_50 (by decide) ?_
  refine j_aload_n hX dX5_copyFrom_51 rfl 0 rfl ?_
  refine j_get hX dX5_copyFrom_52 inX5 4 q75 0 rfl rfl (by decide) rfl rfl ?_
  refine j_iconst hX 0 dX5_copyFrom_55 (by decide) ?_
  refine j_bipush hX 8 dX5_copyFrom_56 (by decide) ?_
  refine j_copyi hX (wR t ad o nr_count nr_nextId (va_cpy nr_ids r_ids (0 : Int32).toNatClampNeg (0 : Int32).toNatClampNeg (8 : Int32).toNatClampNeg) (va_cpy nr_borrowers r_borrowers (0 : Int32).toNatClampNeg (0 : Int32).toNatClampNeg (8 : Int32).toNatClampNeg) (va_cpy nr_pitches r_pitches (0 : Int32).toNatClampNeg (0 : Int32).toNatClampNeg (8 : Int32).toNatClampNeg) r_tolerances r_firstDays r_lastDays ++ (wR t ad o2 nr_count nr_nextId nr_ids nr_borrowers nr_pitches nr_tolerances nr_firstDays nr_lastDays)) q215 dX5_copyFrom_58 10 3 0 rfl rfl rfl rfl rfl hf (Nat.le_of_ble_eq_true rfl) (by decide +kernel) (fun c58 hf => ?_)
  refine j_aload_n hX dX5_copyFrom_61 rfl 1 rfl ?_
  refine j_get hX dX5_copyFrom_62 inX5 5 q76 7 rfl rfl (by decide) rfl rfl ?_
  refine j_iconst hX 0 dX5_copyFrom_65 (by decide) ?_
  refine j_aload_n hX dX5_copyFrom_66 rfl 0 rfl ?_
  refine j_get hX dX5_copyFrom_67 inX5 5 q76 0 rfl rfl (by decide) rfl rfl ?_
  refine j_iconst hX 0 dX5_copyFrom_70 (by decide) ?_
  refine j_bipush hX 8 dX5_copyFrom_71 (by decide) ?_
  refine j_copyi hX (wR t ad o nr_count nr_nextId (va_cpy nr_ids r_ids (0 : Int32).toNatClampNeg (0 : Int32).toNatClampNeg (8 : Int32).toNatClampNeg) (va_cpy nr_borrowers r_borrowers (0 : Int32).toNatClampNeg (0 : Int32).toNatClampNeg (8 : Int32).toNatClampNeg) (va_cpy nr_pitches r_pitches (0 : Int32).toNatClampNeg (0 : Int32).toNatClampNeg (8 : Int32).toNatClampNeg) (va_cpy nr_tolerances r_tolerances (0 : Int32).toNatClampNeg (0 : Int32).toNatClampNeg (8 : Int32).toNatClampNeg) r_firstDays r_lastDays ++ (wR t ad o2 nr_count nr_nextId nr_ids nr_borrowers nr_pitches nr_tolerances nr_firstDays nr_lastDays)) q215 dX5_copyFrom_73 11 4 0 rfl rfl rfl rfl rfl hf (Nat.le_of_ble_eq_true rfl) (by decide +kernel) (fun c73 hf => ?_)
  refine j_aload_n hX dX5_copyFrom_76 rfl 1 rfl ?_
  refine j_get hX dX5_copyFrom_77 inX5 6 q77 7 rfl rfl (by decide) rfl rfl ?_
  refine j_iconst hX 0 dX5_copyFrom_80 (by decide) ?_
  refine j_aload_n hX dX5_copyFrom_81 rfl 0 rfl ?_
  refine j_get hX dX5_copyFrom_82 inX5 6 q77 0 rfl rfl (by decide) rfl rfl ?_
  refine j_iconst hX 0 dX5_copyFrom_85 (by decide) ?_
  refine j_bipush hX 8 dX5_copyFrom_86 (by decide) ?_
  refine j_copyi hX (wR t ad o nr_count nr_nextId (va_cpy nr_ids r_ids (0 : Int32).toNatClampNeg (0 : Int32).toNatClampNeg (8 : Int32).toNatClampNeg) (va_cpy nr_borrowers r_borrowers (0 : Int32).toNatClampNeg (0 : Int32).toNatClampNeg (8 : Int32).toNatClampNeg) (va_cpy nr_pitches r_pitches (0 : Int32).toNatClampNeg (0 : Int32).toNatClampNeg (8 : Int32).toNatClampNeg) (va_cpy nr_tolerances r_tolerances (0 : Int32).toNatClampNeg (0 : Int32).toNatClampNeg (8 : Int32).toNatClampNeg) (va_cpy nr_firstDays r_firstDays (0 : Int32).toNatClampNeg (0 : Int32).toNatClampNeg (8 : Int32).toNatClampNeg) r_lastDays ++ (wR t ad o2 nr_count nr_nextId nr_ids nr_borrowers nr_pitches nr_tolerances nr_firstDays nr_lastDays)) q215 dX5_copyFrom_88 12 5 0 rfl rfl rfl rfl rfl hf (Nat.le_of_ble_eq_true rfl) (by decide +kernel) (fun c88 hf => ?_)
  refine j_aload_n hX dX5_copyFrom_91 rfl 1 rfl ?_
  refine j_get hX dX5_copyFrom_92 inX5 7 q78 7 rfl rfl (by decide) rfl rfl ?_
  refine j_iconst hX 0 dX5_copyFrom_95 (by decide) ?_
  refine j_aload_n hX dX5_copyFrom_96 rfl 0 rfl ?_
  refine j_get hX dX5_copyFrom_97 inX5 7 q78 0 rfl rfl (by decide) rfl rfl ?_
  refine j_iconst hX 0 dX5_copyFrom_100 (by decide) ?_
  refine j_bipush hX 8 dX5_copyFrom_101 (by decide) ?_
  refine j_copyi hX (wR t ad o nr_count nr_nextId (va_cpy nr_ids r_ids (0 : Int32).toNatClampNeg (0 : Int32).toNatClampNeg (8 : Int32).toNatClampNeg) (va_cpy nr_borrowers r_borrowers (0 : Int32).toNatClampNeg (0 : Int32).toNatClampNeg (8 : Int32).toNatClampNeg) (va_cpy nr_pitches r_pitches (0 : Int32).toNatClampNeg (0 : Int32).toNatClampNeg (8 : Int32).toNatClampNeg) (va_cpy nr_tolerances r_tolerances (0 : Int32).toNatClampNeg (0 : Int32).toNatClampNeg (8 : Int32).toNatClampNeg) (va_cpy nr_firstDays r_firstDays (0 : Int32).toNatClampNeg (0 : Int32).toNatClampNeg (8 : Int32).toNatClampNeg) (va_cpy nr_lastDays r_lastDays (0 : Int32).toNatClampNeg (0 : Int32).toNatClampNeg (8 : Int32).toNatClampNeg) ++ (wR t ad o2 nr_count nr_nextId nr_ids nr_borrowers nr_pitches nr_tolerances nr_firstDays nr_lastDays)) q215 dX5_copyFrom_103 13 6 0 rfl rfl rfl rfl rfl hf (Nat.le_of_ble_eq_true rfl) (by decide +kernel) (fun c103 hf => ?_)
  cases hf
  exact j_vret hX hE dX5_copyFrom_106 (Nat.le_refl _) (Nat.le_refl _) ⟨rfl, rfl⟩
-- HammerDepot$Requests size ()I
def f_X5_size (r_count : Int32) : Option (Int32) :=
  some r_count
set_option maxHeartbeats 4000000 in
set_option maxRecDepth 100000 in
theorem k_X5_size {l : Launch} {D : va_G} {t : Nat → ClassId} {ad : Nat → Nat} {o : Nat} (r_count : Int32) (r_nextId : Int32) (r_ids : Nat → Int32) (r_borrowers : Nat → Int32) (r_pitches : Nat → Int32) (r_tolerances : Nat → Int32) (r_firstDays : Nat → Int32) (r_lastDays : Nat → Int32)  (u : Int32) (hf : f_X5_size r_count = some u) : cm l D (jT t) yX5_size cX5_size 1 (some FieldType.int) { frames := 0, cells := 0, slots := 0, locals := 0 } [.ref (ad o)] (wR t ad o r_count r_nextId r_ids r_borrowers r_pitches r_tolerances r_firstDays r_lastDays) (fun v w => v = (some (.int u)) ∧ w = wR t ad o r_count r_nextId r_ids r_borrowers r_pitches r_tolerances r_firstDays r_lastDays) := by
  refine cm_of RX5 rfl (by decide +kernel) (Nat.le_of_ble_eq_true rfl) (fun X hX hE => ?_)
  change J X 0 0 (wR t ad o r_count r_nextId r_ids r_borrowers r_pitches r_tolerances r_firstDays r_lastDays) 0 [(0, .ref (ad o))] []
  unfold f_X5_size at hf
  refine j_aload_n hX dX5_size_0 rfl 0 rfl ?_
  refine j_get hX dX5_size_1 inX5 0 q71 0 rfl rfl (by decide) rfl rfl ?_
  cases hf
  exact j_iret hX hE dX5_size_4 (Nat.le_refl _) (Nat.le_refl _) ⟨rfl, rfl⟩
-- HammerDepot$Requests isFull ()Z
def f_X5_isFull (r_count : Int32) : Option (Int32) :=
  if r_count < 8 then
    some 0
  else
    some 1
set_option maxHeartbeats 4000000 in
set_option maxRecDepth 100000 in
theorem k_X5_isFull {l : Launch} {D : va_G} {t : Nat → ClassId} {ad : Nat → Nat} {o : Nat} (r_count : Int32) (r_nextId : Int32) (r_ids : Nat → Int32) (r_borrowers : Nat → Int32) (r_pitches : Nat → Int32) (r_tolerances : Nat → Int32) (r_firstDays : Nat → Int32) (r_lastDays : Nat → Int32)  (u : Int32) (hf : f_X5_isFull r_count = some u) : cm l D (jT t) yX5_isFull cX5_isFull 1 (some FieldType.boolean) { frames := 0, cells := 0, slots := 0, locals := 0 } [.ref (ad o)] (wR t ad o r_count r_nextId r_ids r_borrowers r_pitches r_tolerances r_firstDays r_lastDays) (fun v w => v = (some (.int u)) ∧ w = wR t ad o r_count r_nextId r_ids r_borrowers r_pitches r_tolerances r_firstDays r_lastDays) := by
  refine cm_of RX5 rfl (by decide +kernel) (Nat.le_of_ble_eq_true rfl) (fun X hX hE => ?_)
  change J X 0 0 (wR t ad o r_count r_nextId r_ids r_borrowers r_pitches r_tolerances r_firstDays r_lastDays) 0 [(0, .ref (ad o))] []
  unfold f_X5_isFull at hf
  refine j_aload_n hX dX5_isFull_0 rfl 0 rfl ?_
  refine j_get hX dX5_isFull_1 inX5 0 q71 0 rfl rfl (by decide) rfl rfl ?_
  refine j_bipush hX 8 dX5_isFull_4 (by decide) ?_
  refine j_icmp_lt hX 13 dX5_isFull_6 (by decide) hf (fun c6 hf => ?_) (fun c6 hf => ?_)
  · refine j_iconst hX 0 dX5_isFull_13 (by decide) ?_
    cases hf
    exact j_zret hX hE rfl dX5_isFull_14 (Nat.le_refl _) (Nat.le_refl _) ⟨rfl, rfl⟩
  · refine j_iconst hX 1 dX5_isFull_9 (by decide) ?_
    refine j_goto hX 14 dX5_isFull_10 (by decide) ?_
    cases hf
    exact j_zret hX hE rfl dX5_isFull_14 (Nat.le_refl _) (Nat.le_refl _) ⟨rfl, rfl⟩
-- HammerDepot$Requests has (I)Z
def f_X5_has (r_count : Int32) (a0 : Int32) : Option (Int32) :=
  if a0 < 0 then
    some 0
  else
    if r_count ≤ a0 then
      some 0
    else
      if 8 ≤ a0 then
        some 0
      else
        some 1
set_option maxHeartbeats 4000000 in
set_option maxRecDepth 100000 in
theorem k_X5_has {l : Launch} {D : va_G} {t : Nat → ClassId} {ad : Nat → Nat} {o : Nat} (r_count : Int32) (r_nextId : Int32) (r_ids : Nat → Int32) (r_borrowers : Nat → Int32) (r_pitches : Nat → Int32) (r_tolerances : Nat → Int32) (r_firstDays : Nat → Int32) (r_lastDays : Nat → Int32) (a0 : Int32) (u : Int32) (hf : f_X5_has r_count a0 = some u) : cm l D (jT t) yX5_has cX5_has 2 (some FieldType.boolean) { frames := 0, cells := 0, slots := 0, locals := 0 } [.ref (ad o), .int a0] (wR t ad o r_count r_nextId r_ids r_borrowers r_pitches r_tolerances r_firstDays r_lastDays) (fun v w => v = (some (.int u)) ∧ w = wR t ad o r_count r_nextId r_ids r_borrowers r_pitches r_tolerances r_firstDays r_lastDays) := by
  refine cm_of RX5 rfl (by decide +kernel) (Nat.le_of_ble_eq_true rfl) (fun X hX hE => ?_)
  change J X 0 0 (wR t ad o r_count r_nextId r_ids r_borrowers r_pitches r_tolerances r_firstDays r_lastDays) 0 [(0, .ref (ad o)), (1, .int a0)] []
  unfold f_X5_has at hf
  refine j_iload_n hX dX5_has_0 rfl 1 rfl ?_
  refine j_if_lt hX 22 dX5_has_1 (by decide) hf (fun c1 hf => ?_) (fun c1 hf => ?_)
  · refine j_iconst hX 0 dX5_has_22 (by decide) ?_
    cases hf
    exact j_zret hX hE rfl dX5_has_23 (Nat.le_refl _) (Nat.le_refl _) ⟨rfl, rfl⟩
  · refine j_iload_n hX dX5_has_4 rfl 1 rfl ?_
    refine j_aload_n hX dX5_has_5 rfl 0 rfl ?_
    refine j_get hX dX5_has_6 inX5 0 q71 0 rfl rfl (by decide) rfl rfl ?_
    refine j_icmp_ge hX 22 dX5_has_9 (by decide) hf (fun c9 hf => ?_) (fun c9 hf => ?_)
    · refine j_iconst hX 0 dX5_has_22 (by decide) ?_
      cases hf
      exact j_zret hX hE rfl dX5_has_23 (Nat.le_refl _) (Nat.le_refl _) ⟨rfl, rfl⟩
    · refine j_iload_n hX dX5_has_12 rfl 1 rfl ?_
      refine j_bipush hX 8 dX5_has_13 (by decide) ?_
      refine j_icmp_ge hX 22 dX5_has_15 (by decide) hf (fun c15 hf => ?_) (fun c15 hf => ?_)
      · refine j_iconst hX 0 dX5_has_22 (by decide) ?_
        cases hf
        exact j_zret hX hE rfl dX5_has_23 (Nat.le_refl _) (Nat.le_refl _) ⟨rfl, rfl⟩
      · refine j_iconst hX 1 dX5_has_18 (by decide) ?_
        refine j_goto hX 23 dX5_has_19 (by decide) ?_
        cases hf
        exact j_zret hX hE rfl dX5_has_23 (Nat.le_refl _) (Nat.le_refl _) ⟨rfl, rfl⟩
-- HammerDepot$Requests idAt (I)I
def f_X5_idAt (r_count : Int32) (r_ids : Nat → Int32) (a0 : Int32) : Option (Int32) :=
  Option.bind (f_X5_has r_count a0) (fun u1 =>
    if u1 = 0 then
      some (-1)
    else
      if jin a0 8 = true then
        some (r_ids (a0).toNatClampNeg)
      else none)
set_option maxHeartbeats 4000000 in
set_option maxRecDepth 100000 in
theorem k_X5_idAt {l : Launch} {D : va_G} {t : Nat → ClassId} {ad : Nat → Nat} {o : Nat} (r_count : Int32) (r_nextId : Int32) (r_ids : Nat → Int32) (r_borrowers : Nat → Int32) (r_pitches : Nat → Int32) (r_tolerances : Nat → Int32) (r_firstDays : Nat → Int32) (r_lastDays : Nat → Int32) (a0 : Int32) (u : Int32) (hf : f_X5_idAt r_count r_ids a0 = some u) : cm l D (jT t) yX5_idAt cX5_idAt 2 (some FieldType.int) { frames := 1, cells := 0, slots := 0, locals := 21 } [.ref (ad o), .int a0] (wR t ad o r_count r_nextId r_ids r_borrowers r_pitches r_tolerances r_firstDays r_lastDays) (fun v w => v = (some (.int u)) ∧ w = wR t ad o r_count r_nextId r_ids r_borrowers r_pitches r_tolerances r_firstDays r_lastDays) := by
  refine cm_of RX5 rfl (by decide +kernel) (Nat.le_of_ble_eq_true rfl) (fun X hX hE => ?_)
  change J X 0 0 (wR t ad o r_count r_nextId r_ids r_borrowers r_pitches r_tolerances r_firstDays r_lastDays) 0 [(0, .ref (ad o)), (1, .int a0)] []
  unfold f_X5_idAt at hf
  refine j_aload_n hX dX5_idAt_0 rfl 0 rfl ?_
  refine j_iload_n hX dX5_idAt_1 rfl 1 rfl ?_
  obtain ⟨u1, h2, hf⟩ := jbind hf
  refine j_callV (st := []) hX (k_X5_has (l := l) (D := D) (t := t) (ad := ad) (o := o) r_count r_nextId r_ids r_borrowers r_pitches r_tolerances r_firstDays r_lastDays a0 u1 h2) q239 q240 q241 q5 q242 (n9 := 1) rfl ⟨by decide +kernel, by decide +kernel⟩ 0 rfl rfl rfl dX5_idAt_2 (Nat.le_of_ble_eq_true rfl) ⟨Nat.le_refl _, Nat.le_refl _⟩ (fun w : va_W => w) jFr_id rfl rfl (fun v w hvw => ?_)
  obtain ⟨rfl, rfl⟩ := hvw
  change J X 0 0 (wR t ad o r_count r_nextId r_ids r_borrowers r_pitches r_tolerances r_firstDays r_lastDays) 5 [(0, .ref (ad o)), (1, .int a0)] [.int u1]
  refine j_if_eq hX 17 dX5_idAt_5 (by decide) hf (fun c5 hf => ?_) (fun c5 hf => ?_)
  · refine j_iconst hX (-1) dX5_idAt_17 (by decide) ?_
    cases hf
    exact j_iret hX hE dX5_idAt_18 (Nat.le_refl _) (Nat.le_refl _) ⟨rfl, rfl⟩
  · refine j_aload_n hX dX5_idAt_8 rfl 0 rfl ?_
    refine j_get hX dX5_idAt_9 inX5 2 q73 0 rfl rfl (by decide) rfl rfl ?_
    refine j_iload_n hX dX5_idAt_12 rfl 1 rfl ?_
    refine j_iald hX dX5_idAt_13 1 0 rfl rfl hf (fun c13 hf => ?_)
    refine j_goto hX 18 dX5_idAt_14 (by decide) ?_
    cases hf
    exact j_iret hX hE dX5_idAt_18 (Nat.le_refl _) (Nat.le_refl _) ⟨rfl, rfl⟩
-- HammerDepot$Requests positionOf (I)I
def f_X5_positionOf_L2 (r_count : Int32) (r_ids : Nat → Int32) (x1 : Int32) : Nat → Int32 → Option ((Int32) ⊕ (Int32))
  | 0, _ => none
  | jn + 1, x2 =>
    if r_count ≤ x2 then
      some (.inr x2)
    else
      Option.bind (f_X5_idAt r_count r_ids x2) (fun u1 =>
        if u1 = x1 then
          some (.inl x2)
        else
          f_X5_positionOf_L2 r_count r_ids x1 jn (x2 + 1))
def f_X5_positionOf (r_count : Int32) (r_ids : Nat → Int32) (a0 : Int32) : Option (Int32) :=
  Option.bind (f_X5_positionOf_L2 r_count r_ids a0 jFU 0) (fun o3 => Sum.elim (fun r => some r) (fun s4 =>
    some (-1)) o3)
set_option maxHeartbeats 4000000 in
set_option maxRecDepth 100000 in
theorem k_X5_positionOf_L2 {l : Launch} {D : va_G} {t : Nat → ClassId} {ad : Nat → Nat} {o : Nat} (r_count : Int32) (r_ids : Nat → Int32) (x1 : Int32) (r_nextId : Int32) (r_borrowers : Nat → Int32) (r_pitches : Nat → Int32) (r_tolerances : Nat → Int32) (r_firstDays : Nat → Int32) (r_lastDays : Nat → Int32) {X : jX} (hX : jOK X l D (jT t) cX5_positionOf RX5 (some FieldType.int) { frames := 2, cells := 0, slots := 0, locals := 42 } 3) {PP : Option Value → va_W → Prop} (hE : jEnd X PP 0 0) :
    ∀ (jn : Nat) (x2 : Int32) (u : (Int32) ⊕ (Int32)) (hf : f_X5_positionOf_L2 r_count r_ids x1 jn x2 = some u) (kx : ∀ s : Int32, u = .inr s → J X 0 0 (wR t ad o r_count r_nextId r_ids r_borrowers r_pitches r_tolerances r_firstDays r_lastDays) 27 [(2, .int s), (0, .ref (ad o)), (1, .int x1)] []) (kr : ∀ r : Int32, u = .inl r → PP (some (.int r)) (wR t ad o r_count r_nextId r_ids r_borrowers r_pitches r_tolerances r_firstDays r_lastDays)), J X 0 0 (wR t ad o r_count r_nextId r_ids r_borrowers r_pitches r_tolerances r_firstDays r_lastDays) 2 [(2, .int x2), (0, .ref (ad o)), (1, .int x1)] [] := by
  intro jn
  induction jn with
  | zero => intro x2 u hf; cases (show (none : Option ((Int32) ⊕ (Int32))) = some u from hf)
  | succ jn ih =>
    intro x2 u hf kx kr
    unfold f_X5_positionOf_L2 at hf
    refine j_iload_n hX dX5_positionOf_2 rfl 0 rfl ?_
    refine j_aload_n hX dX5_positionOf_3 rfl 1 rfl ?_
    refine j_get hX dX5_positionOf_4 inX5 0 q71 0 rfl rfl (by decide) rfl rfl ?_
    refine j_icmp_ge hX 27 dX5_positionOf_7 (by decide) hf (fun c7 hf => ?_) (fun c7 hf => ?_)
    · cases hf
      exact kx _ rfl
    · refine j_aload_n hX dX5_positionOf_10 rfl 1 rfl ?_
      refine j_iload_n hX dX5_positionOf_11 rfl 0 rfl ?_
      obtain ⟨u1, h2, hf⟩ := jbind hf
      refine j_callV (st := []) hX (k_X5_idAt (l := l) (D := D) (t := t) (ad := ad) (o := o) r_count r_nextId r_ids r_borrowers r_pitches r_tolerances r_firstDays r_lastDays x2 u1 h2) q704 q705 q706 q5 q707 (n9 := 1) rfl ⟨by decide +kernel, by decide +kernel⟩ 0 rfl rfl rfl dX5_positionOf_12 (Nat.le_of_ble_eq_true rfl) ⟨Nat.le_refl _, Nat.le_refl _⟩ (fun w : va_W => w) jFr_id rfl rfl (fun v w hvw => ?_)
      obtain ⟨rfl, rfl⟩ := hvw
      change J X 0 0 (wR t ad o r_count r_nextId r_ids r_borrowers r_pitches r_tolerances r_firstDays r_lastDays) 15 [(2, .int x2), (0, .ref (ad o)), (1, .int x1)] [.int u1]
      refine j_iload_n hX dX5_positionOf_15 rfl 2 rfl ?_
      refine j_icmp_ne hX 21 dX5_positionOf_16 (by decide) hf (fun c16 hf => ?_) (fun c16 hf => ?_)
      · refine j_iinc hX (x2 + 1) [(2, .int (x2 + 1)), (0, .ref (ad o)), (1, .int x1)] dX5_positionOf_21 0 rfl rfl (by decide) rfl ?_
        refine j_goto hX 2 dX5_positionOf_24 (by decide) ?_
        exact ih (x2 + 1) u hf kx kr
      · refine j_iload_n hX dX5_positionOf_19 rfl 0 rfl ?_
        cases hf
        exact j_iret hX hE dX5_positionOf_20 (Nat.le_refl _) (Nat.le_refl _) (kr _ rfl)
set_option maxHeartbeats 4000000 in
set_option maxRecDepth 100000 in
theorem k_X5_positionOf {l : Launch} {D : va_G} {t : Nat → ClassId} {ad : Nat → Nat} {o : Nat} (r_count : Int32) (r_nextId : Int32) (r_ids : Nat → Int32) (r_borrowers : Nat → Int32) (r_pitches : Nat → Int32) (r_tolerances : Nat → Int32) (r_firstDays : Nat → Int32) (r_lastDays : Nat → Int32) (a0 : Int32) (u : Int32) (hf : f_X5_positionOf r_count r_ids a0 = some u) : cm l D (jT t) yX5_positionOf cX5_positionOf 3 (some FieldType.int) { frames := 2, cells := 0, slots := 0, locals := 42 } [.ref (ad o), .int a0] (wR t ad o r_count r_nextId r_ids r_borrowers r_pitches r_tolerances r_firstDays r_lastDays) (fun v w => v = (some (.int u)) ∧ w = wR t ad o r_count r_nextId r_ids r_borrowers r_pitches r_tolerances r_firstDays r_lastDays) := by
  refine cm_of RX5 rfl (by decide +kernel) (Nat.le_of_ble_eq_true rfl) (fun X hX hE => ?_)
  change J X 0 0 (wR t ad o r_count r_nextId r_ids r_borrowers r_pitches r_tolerances r_firstDays r_lastDays) 0 [(0, .ref (ad o)), (1, .int a0)] []
  unfold f_X5_positionOf at hf
  refine j_iconst hX 0 dX5_positionOf_0 (by decide) ?_
  refine j_istore_n hX [(2, .int 0), (0, .ref (ad o)), (1, .int a0)] dX5_positionOf_1 rfl (by decide) rfl ?_
  obtain ⟨o3, h5, hf⟩ := jbind hf
  refine k_X5_positionOf_L2 (ad := ad) r_count r_ids a0 r_nextId r_borrowers r_pitches r_tolerances r_firstDays r_lastDays hX hE jFU 0 o3 h5 (fun s4 es4 => ?_) (fun r er => ?_)
  · subst es4
    have hf := jsum_r hf
    refine j_iconst hX (-1) dX5_positionOf_27 (by decide) ?_
    cases hf
    exact j_iret hX hE dX5_positionOf_28 (Nat.le_refl _) (Nat.le_refl _) ⟨rfl, rfl⟩
  · subst er
    cases hf
    exact ⟨rfl, rfl⟩
-- HammerDepot$Requests borrowerAt (I)I
def f_X5_borrowerAt (r_count : Int32) (r_borrowers : Nat → Int32) (a0 : Int32) : Option (Int32) :=
  Option.bind (f_X5_has r_count a0) (fun u1 =>
    if u1 = 0 then
      some (-1)
    else
      if jin a0 8 = true then
        some (r_borrowers (a0).toNatClampNeg)
      else none)
set_option maxHeartbeats 4000000 in
set_option maxRecDepth 100000 in
theorem k_X5_borrowerAt {l : Launch} {D : va_G} {t : Nat → ClassId} {ad : Nat → Nat} {o : Nat} (r_count : Int32) (r_nextId : Int32) (r_ids : Nat → Int32) (r_borrowers : Nat → Int32) (r_pitches : Nat → Int32) (r_tolerances : Nat → Int32) (r_firstDays : Nat → Int32) (r_lastDays : Nat → Int32) (a0 : Int32) (u : Int32) (hf : f_X5_borrowerAt r_count r_borrowers a0 = some u) : cm l D (jT t) yX5_borrowerAt cX5_borrowerAt 2 (some FieldType.int) { frames := 1, cells := 0, slots := 0, locals := 21 } [.ref (ad o), .int a0] (wR t ad o r_count r_nextId r_ids r_borrowers r_pitches r_tolerances r_firstDays r_lastDays) (fun v w => v = (some (.int u)) ∧ w = wR t ad o r_count r_nextId r_ids r_borrowers r_pitches r_tolerances r_firstDays r_lastDays) := by
  refine cm_of RX5 rfl (by decide +kernel) (Nat.le_of_ble_eq_true rfl) (fun X hX hE => ?_)
  change J X 0 0 (wR t ad o r_count r_nextId r_ids r_borrowers r_pitches r_tolerances r_firstDays r_lastDays) 0 [(0, .ref (ad o)), (1, .int a0)] []
  unfold f_X5_borrowerAt at hf
  refine j_aload_n hX dX5_borrowerAt_0 rfl 0 rfl ?_
  refine j_iload_n hX dX5_borrowerAt_1 rfl 1 rfl ?_
  obtain ⟨u1, h2, hf⟩ := jbind hf
  refine j_callV (st := []) hX (k_X5_has (l := l) (D := D) (t := t) (ad := ad) (o := o) r_count r_nextId r_ids r_borrowers r_pitches r_tolerances r_firstDays r_lastDays a0 u1 h2) q239 q240 q241 q5 q242 (n9 := 1) rfl ⟨by decide +kernel, by decide +kernel⟩ 0 rfl rfl rfl dX5_borrowerAt_2 (Nat.le_of_ble_eq_true rfl) ⟨Nat.le_refl _, Nat.le_refl _⟩ (fun w : va_W => w) jFr_id rfl rfl (fun v w hvw => ?_)
  obtain ⟨rfl, rfl⟩ := hvw
  change J X 0 0 (wR t ad o r_count r_nextId r_ids r_borrowers r_pitches r_tolerances r_firstDays r_lastDays) 5 [(0, .ref (ad o)), (1, .int a0)] [.int u1]
  refine j_if_eq hX 17 dX5_borrowerAt_5 (by decide) hf (fun c5 hf => ?_) (fun c5 hf => ?_)
  · refine j_iconst hX (-1) dX5_borrowerAt_17 (by decide) ?_
    cases hf
    exact j_iret hX hE dX5_borrowerAt_18 (Nat.le_refl _) (Nat.le_refl _) ⟨rfl, rfl⟩
  · refine j_aload_n hX dX5_borrowerAt_8 rfl 0 rfl ?_
    refine j_get hX dX5_borrowerAt_9 inX5 3 q74 0 rfl rfl (by decide) rfl rfl ?_
    refine j_iload_n hX dX5_borrowerAt_12 rfl 1 rfl ?_
    refine j_iald hX dX5_borrowerAt_13 2 0 rfl rfl hf (fun c13 hf => ?_)
    refine j_goto hX 18 dX5_borrowerAt_14 (by decide) ?_
    cases hf
    exact j_iret hX hE dX5_borrowerAt_18 (Nat.le_refl _) (Nat.le_refl _) ⟨rfl, rfl⟩
-- HammerDepot$Requests pitchAt (I)I
def f_X5_pitchAt (r_count : Int32) (r_pitches : Nat → Int32) (a0 : Int32) : Option (Int32) :=
  Option.bind (f_X5_has r_count a0) (fun u1 =>
    if u1 = 0 then
      some 0
    else
      if jin a0 8 = true then
        some (r_pitches (a0).toNatClampNeg)
      else none)
set_option maxHeartbeats 4000000 in
set_option maxRecDepth 100000 in
theorem k_X5_pitchAt {l : Launch} {D : va_G} {t : Nat → ClassId} {ad : Nat → Nat} {o : Nat} (r_count : Int32) (r_nextId : Int32) (r_ids : Nat → Int32) (r_borrowers : Nat → Int32) (r_pitches : Nat → Int32) (r_tolerances : Nat → Int32) (r_firstDays : Nat → Int32) (r_lastDays : Nat → Int32) (a0 : Int32) (u : Int32) (hf : f_X5_pitchAt r_count r_pitches a0 = some u) : cm l D (jT t) yX5_pitchAt cX5_pitchAt 2 (some FieldType.int) { frames := 1, cells := 0, slots := 0, locals := 21 } [.ref (ad o), .int a0] (wR t ad o r_count r_nextId r_ids r_borrowers r_pitches r_tolerances r_firstDays r_lastDays) (fun v w => v = (some (.int u)) ∧ w = wR t ad o r_count r_nextId r_ids r_borrowers r_pitches r_tolerances r_firstDays r_lastDays) := by
  refine cm_of RX5 rfl (by decide +kernel) (Nat.le_of_ble_eq_true rfl) (fun X hX hE => ?_)
  change J X 0 0 (wR t ad o r_count r_nextId r_ids r_borrowers r_pitches r_tolerances r_firstDays r_lastDays) 0 [(0, .ref (ad o)), (1, .int a0)] []
  unfold f_X5_pitchAt at hf
  refine j_aload_n hX dX5_pitchAt_0 rfl 0 rfl ?_
  refine j_iload_n hX dX5_pitchAt_1 rfl 1 rfl ?_
  obtain ⟨u1, h2, hf⟩ := jbind hf
  refine j_callV (st := []) hX (k_X5_has (l := l) (D := D) (t := t) (ad := ad) (o := o) r_count r_nextId r_ids r_borrowers r_pitches r_tolerances r_firstDays r_lastDays a0 u1 h2) q239 q240 q241 q5 q242 (n9 := 1) rfl ⟨by decide +kernel, by decide +kernel⟩ 0 rfl rfl rfl dX5_pitchAt_2 (Nat.le_of_ble_eq_true rfl) ⟨Nat.le_refl _, Nat.le_refl _⟩ (fun w : va_W => w) jFr_id rfl rfl (fun v w hvw => ?_)
  obtain ⟨rfl, rfl⟩ := hvw
  change J X 0 0 (wR t ad o r_count r_nextId r_ids r_borrowers r_pitches r_tolerances r_firstDays r_lastDays) 5 [(0, .ref (ad o)), (1, .int a0)] [.int u1]
  refine j_if_eq hX 17 dX5_pitchAt_5 (by decide) hf (fun c5 hf => ?_) (fun c5 hf => ?_)
  · refine j_iconst hX 0 dX5_pitchAt_17 (by decide) ?_
    cases hf
    exact j_iret hX hE dX5_pitchAt_18 (Nat.le_refl _) (Nat.le_refl _) ⟨rfl, rfl⟩
  · refine j_aload_n hX dX5_pitchAt_8 rfl 0 rfl ?_
    refine j_get hX dX5_pitchAt_9 inX5 4 q75 0 rfl rfl (by decide) rfl rfl ?_
    refine j_iload_n hX dX5_pitchAt_12 rfl 1 rfl ?_
    refine j_iald hX dX5_pitchAt_13 3 0 rfl rfl hf (fun c13 hf => ?_)
    refine j_goto hX 18 dX5_pitchAt_14 (by decide) ?_
    cases hf
    exact j_iret hX hE dX5_pitchAt_18 (Nat.le_refl _) (Nat.le_refl _) ⟨rfl, rfl⟩
-- HammerDepot$Requests toleranceAt (I)I
def f_X5_toleranceAt (r_count : Int32) (r_tolerances : Nat → Int32) (a0 : Int32) : Option (Int32) :=
  Option.bind (f_X5_has r_count a0) (fun u1 =>
    if u1 = 0 then
      some (-1)
    else
      if jin a0 8 = true then
        some (r_tolerances (a0).toNatClampNeg)
      else none)
set_option maxHeartbeats 4000000 in
set_option maxRecDepth 100000 in
theorem k_X5_toleranceAt {l : Launch} {D : va_G} {t : Nat → ClassId} {ad : Nat → Nat} {o : Nat} (r_count : Int32) (r_nextId : Int32) (r_ids : Nat → Int32) (r_borrowers : Nat → Int32) (r_pitches : Nat → Int32) (r_tolerances : Nat → Int32) (r_firstDays : Nat → Int32) (r_lastDays : Nat → Int32) (a0 : Int32) (u : Int32) (hf : f_X5_toleranceAt r_count r_tolerances a0 = some u) : cm l D (jT t) yX5_toleranceAt cX5_toleranceAt 2 (some FieldType.int) { frames := 1, cells := 0, slots := 0, locals := 21 } [.ref (ad o), .int a0] (wR t ad o r_count r_nextId r_ids r_borrowers r_pitches r_tolerances r_firstDays r_lastDays) (fun v w => v = (some (.int u)) ∧ w = wR t ad o r_count r_nextId r_ids r_borrowers r_pitches r_tolerances r_firstDays r_lastDays) := by
  refine cm_of RX5 rfl (by decide +kernel) (Nat.le_of_ble_eq_true rfl) (fun X hX hE => ?_)
  change J X 0 0 (wR t ad o r_count r_nextId r_ids r_borrowers r_pitches r_tolerances r_firstDays r_lastDays) 0 [(0, .ref (ad o)), (1, .int a0)] []
  unfold f_X5_toleranceAt at hf
  refine j_aload_n hX dX5_toleranceAt_0 rfl 0 rfl ?_
  refine j_iload_n hX dX5_toleranceAt_1 rfl 1 rfl ?_
  obtain ⟨u1, h2, hf⟩ := jbind hf
  refine j_callV (st := []) hX (k_X5_has (l := l) (D := D) (t := t) (ad := ad) (o := o) r_count r_nextId r_ids r_borrowers r_pitches r_tolerances r_firstDays r_lastDays a0 u1 h2) q239 q240 q241 q5 q242 (n9 := 1) rfl ⟨by decide +kernel, by decide +kernel⟩ 0 rfl rfl rfl dX5_toleranceAt_2 (Nat.le_of_ble_eq_true rfl) ⟨Nat.le_refl _, Nat.le_refl _⟩ (fun w : va_W => w) jFr_id rfl rfl (fun v w hvw => ?_)
  obtain ⟨rfl, rfl⟩ := hvw
  change J X 0 0 (wR t ad o r_count r_nextId r_ids r_borrowers r_pitches r_tolerances r_firstDays r_lastDays) 5 [(0, .ref (ad o)), (1, .int a0)] [.int u1]
  refine j_if_eq hX 17 dX5_toleranceAt_5 (by decide) hf (fun c5 hf => ?_) (fun c5 hf => ?_)
  · refine j_iconst hX (-1) dX5_toleranceAt_17 (by decide) ?_
    cases hf
    exact j_iret hX hE dX5_toleranceAt_18 (Nat.le_refl _) (Nat.le_refl _) ⟨rfl, rfl⟩
  · refine j_aload_n hX dX5_toleranceAt_8 rfl 0 rfl ?_
    refine j_get hX dX5_toleranceAt_9 inX5 5 q76 0 rfl rfl (by decide) rfl rfl ?_
    refine j_iload_n hX dX5_toleranceAt_12 rfl 1 rfl ?_
    refine j_iald hX dX5_toleranceAt_13 4 0 rfl rfl hf (fun c13 hf => ?_)
    refine j_goto hX 18 dX5_toleranceAt_14 (by decide) ?_
    cases hf
    exact j_iret hX hE dX5_toleranceAt_18 (Nat.le_refl _) (Nat.le_refl _) ⟨rfl, rfl⟩
-- HammerDepot$Requests firstDayAt (I)I
def f_X5_firstDayAt (r_count : Int32) (r_firstDays : Nat → Int32) (a0 : Int32) : Option (Int32) :=
  Option.bind (f_X5_has r_count a0) (fun u1 =>
    if u1 = 0 then
      some 0
    else
      if jin a0 8 = true then
        some (r_firstDays (a0).toNatClampNeg)
      else none)
set_option maxHeartbeats 4000000 in
set_option maxRecDepth 100000 in
theorem k_X5_firstDayAt {l : Launch} {D : va_G} {t : Nat → ClassId} {ad : Nat → Nat} {o : Nat} (r_count : Int32) (r_nextId : Int32) (r_ids : Nat → Int32) (r_borrowers : Nat → Int32) (r_pitches : Nat → Int32) (r_tolerances : Nat → Int32) (r_firstDays : Nat → Int32) (r_lastDays : Nat → Int32) (a0 : Int32) (u : Int32) (hf : f_X5_firstDayAt r_count r_firstDays a0 = some u) : cm l D (jT t) yX5_firstDayAt cX5_firstDayAt 2 (some FieldType.int) { frames := 1, cells := 0, slots := 0, locals := 21 } [.ref (ad o), .int a0] (wR t ad o r_count r_nextId r_ids r_borrowers r_pitches r_tolerances r_firstDays r_lastDays) (fun v w => v = (some (.int u)) ∧ w = wR t ad o r_count r_nextId r_ids r_borrowers r_pitches r_tolerances r_firstDays r_lastDays) := by
  refine cm_of RX5 rfl (by decide +kernel) (Nat.le_of_ble_eq_true rfl) (fun X hX hE => ?_)
  change J X 0 0 (wR t ad o r_count r_nextId r_ids r_borrowers r_pitches r_tolerances r_firstDays r_lastDays) 0 [(0, .ref (ad o)), (1, .int a0)] []
  unfold f_X5_firstDayAt at hf
  refine j_aload_n hX dX5_firstDayAt_0 rfl 0 rfl ?_
  refine j_iload_n hX dX5_firstDayAt_1 rfl 1 rfl ?_
  obtain ⟨u1, h2, hf⟩ := jbind hf
  refine j_callV (st := []) hX (k_X5_has (l := l) (D := D) (t := t) (ad := ad) (o := o) r_count r_nextId r_ids r_borrowers r_pitches r_tolerances r_firstDays r_lastDays a0 u1 h2) q239 q240 q241 q5 q242 (n9 := 1) rfl ⟨by decide +kernel, by decide +kernel⟩ 0 rfl rfl rfl dX5_firstDayAt_2 (Nat.le_of_ble_eq_true rfl) ⟨Nat.le_refl _, Nat.le_refl _⟩ (fun w : va_W => w) jFr_id rfl rfl (fun v w hvw => ?_)
  obtain ⟨rfl, rfl⟩ := hvw
  change J X 0 0 (wR t ad o r_count r_nextId r_ids r_borrowers r_pitches r_tolerances r_firstDays r_lastDays) 5 [(0, .ref (ad o)), (1, .int a0)] [.int u1]
  refine j_if_eq hX 17 dX5_firstDayAt_5 (by decide) hf (fun c5 hf => ?_) (fun c5 hf => ?_)
  · refine j_iconst hX 0 dX5_firstDayAt_17 (by decide) ?_
    cases hf
    exact j_iret hX hE dX5_firstDayAt_18 (Nat.le_refl _) (Nat.le_refl _) ⟨rfl, rfl⟩
  · refine j_aload_n hX dX5_firstDayAt_8 rfl 0 rfl ?_
    refine j_get hX dX5_firstDayAt_9 inX5 6 q77 0 rfl rfl (by decide) rfl rfl ?_
    refine j_iload_n hX dX5_firstDayAt_12 rfl 1 rfl ?_
    refine j_iald hX dX5_firstDayAt_13 5 0 rfl rfl hf (fun c13 hf => ?_)
    refine j_goto hX 18 dX5_firstDayAt_14 (by decide) ?_
    cases hf
    exact j_iret hX hE dX5_firstDayAt_18 (Nat.le_refl _) (Nat.le_refl _) ⟨rfl, rfl⟩
-- HammerDepot$Requests lastDayAt (I)I
def f_X5_lastDayAt (r_count : Int32) (r_lastDays : Nat → Int32) (a0 : Int32) : Option (Int32) :=
  Option.bind (f_X5_has r_count a0) (fun u1 =>
    if u1 = 0 then
      some 0
    else
      if jin a0 8 = true then
        some (r_lastDays (a0).toNatClampNeg)
      else none)
set_option maxHeartbeats 4000000 in
set_option maxRecDepth 100000 in
theorem k_X5_lastDayAt {l : Launch} {D : va_G} {t : Nat → ClassId} {ad : Nat → Nat} {o : Nat} (r_count : Int32) (r_nextId : Int32) (r_ids : Nat → Int32) (r_borrowers : Nat → Int32) (r_pitches : Nat → Int32) (r_tolerances : Nat → Int32) (r_firstDays : Nat → Int32) (r_lastDays : Nat → Int32) (a0 : Int32) (u : Int32) (hf : f_X5_lastDayAt r_count r_lastDays a0 = some u) : cm l D (jT t) yX5_lastDayAt cX5_lastDayAt 2 (some FieldType.int) { frames := 1, cells := 0, slots := 0, locals := 21 } [.ref (ad o), .int a0] (wR t ad o r_count r_nextId r_ids r_borrowers r_pitches r_tolerances r_firstDays r_lastDays) (fun v w => v = (some (.int u)) ∧ w = wR t ad o r_count r_nextId r_ids r_borrowers r_pitches r_tolerances r_firstDays r_lastDays) := by
  refine cm_of RX5 rfl (by decide +kernel) (Nat.le_of_ble_eq_true rfl) (fun X hX hE => ?_)
  change J X 0 0 (wR t ad o r_count r_nextId r_ids r_borrowers r_pitches r_tolerances r_firstDays r_lastDays) 0 [(0, .ref (ad o)), (1, .int a0)] []
  unfold f_X5_lastDayAt at hf
  refine j_aload_n hX dX5_lastDayAt_0 rfl 0 rfl ?_
  refine j_iload_n hX dX5_lastDayAt_1 rfl 1 rfl ?_
  obtain ⟨u1, h2, hf⟩ := jbind hf
  refine j_callV (st := []) hX (k_X5_has (l := l) (D := D) (t := t) (ad := ad) (o := o) r_count r_nextId r_ids r_borrowers r_pitches r_tolerances r_firstDays r_lastDays a0 u1 h2) q239 q240 q241 q5 q242 (n9 := 1) rfl ⟨by decide +kernel, by decide +kernel⟩ 0 rfl rfl rfl dX5_lastDayAt_2 (Nat.le_of_ble_eq_true rfl) ⟨Nat.le_refl _, Nat.le_refl _⟩ (fun w : va_W => w) jFr_id rfl rfl (fun v w hvw => ?_)
  obtain ⟨rfl, rfl⟩ := hvw
  change J X 0 0 (wR t ad o r_count r_nextId r_ids r_borrowers r_pitches r_tolerances r_firstDays r_lastDays) 5 [(0, .ref (ad o)), (1, .int a0)] [.int u1]
  refine j_if_eq hX 17 dX5_lastDayAt_5 (by decide) hf (fun c5 hf => ?_) (fun c5 hf => ?_)
  · refine j_iconst hX 0 dX5_lastDayAt_17 (by decide) ?_
    cases hf
    exact j_iret hX hE dX5_lastDayAt_18 (Nat.le_refl _) (Nat.le_refl _) ⟨rfl, rfl⟩
  · refine j_aload_n hX dX5_lastDayAt_8 rfl 0 rfl ?_
    refine j_get hX dX5_lastDayAt_9 inX5 7 q78 0 rfl rfl (by decide) rfl rfl ?_
    refine j_iload_n hX dX5_lastDayAt_12 rfl 1 rfl ?_
    refine j_iald hX dX5_lastDayAt_13 6 0 rfl rfl hf (fun c13 hf => ?_)
    refine j_goto hX 18 dX5_lastDayAt_14 (by decide) ?_
    cases hf
    exact j_iret hX hE dX5_lastDayAt_18 (Nat.le_refl _) (Nat.le_refl _) ⟨rfl, rfl⟩
-- HammerDepot$Requests add (IIIII)I
def f_X5_add (r_count : Int32) (r_nextId : Int32) (r_ids : Nat → Int32) (r_borrowers : Nat → Int32) (r_pitches : Nat → Int32) (r_tolerances : Nat → Int32) (r_firstDays : Nat → Int32) (r_lastDays : Nat → Int32) (a0 : Int32) (a1 : Int32) (a2 : Int32) (a3 : Int32) (a4 : Int32) : Option (Int32 × Int32 × Int32 × (Nat → Int32) × (Nat → Int32) × (Nat → Int32) × (Nat → Int32) × (Nat → Int32) × (Nat → Int32)) :=
  Option.bind (f_X5_isFull r_count) (fun u1 =>
    if u1 = 0 then
      if jin r_count 8 = true then
        if jin r_count 8 = true then
          if jin r_count 8 = true then
            if jin r_count 8 = true then
              if jin r_count 8 = true then
                if jin r_count 8 = true then
                  some (r_nextId, r_count + 1, r_nextId + 1, upd r_ids (r_count).toNatClampNeg r_nextId, upd r_borrowers (r_count).toNatClampNeg a0, upd r_pitches (r_count).toNatClampNeg a1, upd r_tolerances (r_count).toNatClampNeg a2, upd r_firstDays (r_count).toNatClampNeg a3, upd r_lastDays (r_count).toNatClampNeg a4)
                else none
              else none
            else none
          else none
        else none
      else none
    else
      some ((-1), r_count, r_nextId, r_ids, r_borrowers, r_pitches, r_tolerances, r_firstDays, r_lastDays))
set_option maxHeartbeats 4000000 in
set_option maxRecDepth 100000 in
theorem k_X5_add {l : Launch} {D : va_G} {t : Nat → ClassId} {ad : Nat → Nat} {o : Nat} (r_count : Int32) (r_nextId : Int32) (r_ids : Nat → Int32) (r_borrowers : Nat → Int32) (r_pitches : Nat → Int32) (r_tolerances : Nat → Int32) (r_firstDays : Nat → Int32) (r_lastDays : Nat → Int32) (a0 : Int32) (a1 : Int32) (a2 : Int32) (a3 : Int32) (a4 : Int32) (u : Int32 × Int32 × Int32 × (Nat → Int32) × (Nat → Int32) × (Nat → Int32) × (Nat → Int32) × (Nat → Int32) × (Nat → Int32)) (hf : f_X5_add r_count r_nextId r_ids r_borrowers r_pitches r_tolerances r_firstDays r_lastDays a0 a1 a2 a3 a4 = some u) : cm l D (jT t) yX5_add cX5_add 7 (some FieldType.int) { frames := 1, cells := 0, slots := 0, locals := 20 } [.ref (ad o), .int a0, .int a1, .int a2, .int a3, .int a4] (wR t ad o r_count r_nextId r_ids r_borrowers r_pitches r_tolerances r_firstDays r_lastDays) (fun v w => v = (some (.int u.1)) ∧ w = wR t ad o u.2.1 u.2.2.1 u.2.2.2.1 u.2.2.2.2.1 u.2.2.2.2.2.1 u.2.2.2.2.2.2.1 u.2.2.2.2.2.2.2.1 u.2.2.2.2.2.2.2.2) := by
  refine cm_of RX5 rfl (by decide +kernel) (Nat.le_of_ble_eq_true rfl) (fun X hX hE => ?_)
  change J X 0 0 (wR t ad o r_count r_nextId r_ids r_borrowers r_pitches r_tolerances r_firstDays r_lastDays) 0 [(0, .ref (ad o)), (1, .int a0), (2, .int a1), (3, .int a2), (4, .int a3), (5, .int a4)] []
  unfold f_X5_add at hf
  refine j_aload_n hX dX5_add_0 rfl 0 rfl ?_
  obtain ⟨u1, h2, hf⟩ := jbind hf
  refine j_callV (st := []) hX (k_X5_isFull (l := l) (D := D) (t := t) (ad := ad) (o := o) r_count r_nextId r_ids r_borrowers r_pitches r_tolerances r_firstDays r_lastDays  u1 h2) q687 q680 q681 q5 q682 (n9 := 0) rfl ⟨by decide +kernel, by decide +kernel⟩ 0 rfl rfl rfl dX5_add_1 (Nat.le_of_ble_eq_true rfl) ⟨Nat.le_refl _, Nat.le_refl _⟩ (fun w : va_W => w) jFr_id rfl rfl (fun v w hvw => ?_)
  obtain ⟨rfl, rfl⟩ := hvw
  change J X 0 0 (wR t ad o r_count r_nextId r_ids r_borrowers r_pitches r_tolerances r_firstDays r_lastDays) 4 [(0, .ref (ad o)), (1, .int a0), (2, .int a1), (3, .int a2), (4, .int a3), (5, .int a4)] [.int u1]
  refine j_if_eq hX 9 dX5_add_4 (by decide) hf (fun c4 hf => ?_) (fun c4 hf => ?_)
  · refine j_aload_n hX dX5_add_9 rfl 0 rfl ?_
    refine j_get hX dX5_add_10 inX5 1 q72 0 rfl rfl (by decide) rfl rfl ?_
    refine j_istore hX [(6, .int r_nextId), (0, .ref (ad o)), (1, .int a0), (2, .int a1), (3, .int a2), (4, .int a3), (5, .int a4)] dX5_add_13 (by decide) rfl ?_
    refine j_aload_n hX dX5_add_15 rfl 1 rfl ?_
    refine j_dup hX dX5_add_16 rfl ?_
    refine j_get hX dX5_add_17 inX5 1 q72 0 rfl rfl (by decide) rfl rfl ?_
    refine j_iconst hX 1 dX5_add_20 (by decide) ?_
    refine j_iadd hX dX5_add_21 ?_
    refine j_put hX (wR t ad o r_count (r_nextId + 1) r_ids r_borrowers r_pitches r_tolerances r_firstDays r_lastDays) tyX5 dX5_add_22 inX5 tyX5_ok nmX5 1 q72 0 rfl rfl (by decide) rfl rfl rfl rfl rfl (Nat.le_of_ble_eq_true rfl) rfl ?_
    refine j_aload_n hX dX5_add_25 rfl 1 rfl ?_
    refine j_get hX dX5_add_26 inX5 2 q73 0 rfl rfl (by decide) rfl rfl ?_
    refine j_aload_n hX dX5_add_29 rfl 1 rfl ?_
    refine j_get hX dX5_add_30 inX5 0 q71 0 rfl rfl (by decide) rfl rfl ?_
    refine j_iload hX dX5_add_33 0 rfl ?_
    refine j_iast hX (wR t ad o r_count (r_nextId + 1) (upd r_ids (r_count).toNatClampNeg r_nextId) r_borrowers r_pitches r_tolerances r_firstDays r_lastDays) dX5_add_35 1 0 rfl rfl rfl hf (fun c35 hf => ?_)
    refine j_aload_n hX dX5_add_36 rfl 1 rfl ?_
    refine j_get hX dX5_add_37 inX5 3 q74 0 rfl rfl (by decide) rfl rfl ?_
    refine j_aload_n hX dX5_add_40 rfl 1 rfl ?_
    refine j_get hX dX5_add_41 inX5 0 q71 0 rfl rfl (by decide) rfl rfl ?_
    refine j_iload_n hX dX5_add_44 rfl 2 rfl ?_
    refine j_iast hX (wR t ad o r_count (r_nextId + 1) (upd r_ids (r_count).toNatClampNeg r_nextId) (upd r_borrowers (r_count).toNatClampNeg a0) r_pitches r_tolerances r_firstDays r_lastDays) dX5_add_45 2 0 rfl rfl rfl hf (fun c45 hf => ?_)
    refine j_aload_n hX dX5_add_46 rfl 1 rfl ?_
    refine j_get hX dX5_add_47 inX5 4 q75 0 rfl rfl (by decide) rfl rfl ?_
    refine j_aload_n hX dX5_add_50 rfl 1 rfl ?_
    refine j_get hX dX5_add_51 inX5 0 q71 0 rfl rfl (by decide) rfl rfl ?_
    refine j_iload_n hX dX5_add_54 rfl 3 rfl ?_
    refine j_iast hX (wR t ad o r_count (r_nextId + 1) (upd r_ids (r_count).toNatClampNeg r_nextId) (upd r_borrowers (r_count).toNatClampNeg a0) (upd r_pitches (r_count).toNatClampNeg a1) r_tolerances r_firstDays r_lastDays) dX5_add_55 3 0 rfl rfl rfl hf (fun c55 hf => ?_)
    refine j_aload_n hX dX5_add_56 rfl 1 rfl ?_
    refine j_get hX dX5_add_57 inX5 5 q76 0 rfl rfl (by decide) rfl rfl ?_
    refine j_aload_n hX dX5_add_60 rfl 1 rfl ?_
    refine j_get hX dX5_add_61 inX5 0 q71 0 rfl rfl (by decide) rfl rfl ?_
    refine j_iload_n hX dX5_add_64 rfl 4 rfl ?_
    refine j_iast hX (wR t ad o r_count (r_nextId + 1) (upd r_ids (r_count).toNatClampNeg r_nextId) (upd r_borrowers (r_count).toNatClampNeg a0) (upd r_pitches (r_count).toNatClampNeg a1) (upd r_tolerances (r_count).toNatClampNeg a2) r_firstDays r_lastDays) dX5_add_65 4 0 rfl rfl rfl hf (fun c65 hf => ?_)
    refine j_aload_n hX dX5_add_66 rfl 1 rfl ?_
    refine j_get hX dX5_add_67 inX5 6 q77 0 rfl rfl (by decide) rfl rfl ?_
    refine j_aload_n hX dX5_add_70 rfl 1 rfl ?_
    refine j_get hX dX5_add_71 inX5 0 q71 0 rfl rfl (by decide) rfl rfl ?_
    refine j_iload hX dX5_add_74 5 rfl ?_
    refine j_iast hX (wR t ad o r_count (r_nextId + 1) (upd r_ids (r_count).toNatClampNeg r_nextId) (upd r_borrowers (r_count).toNatClampNeg a0) (upd r_pitches (r_count).toNatClampNeg a1) (upd r_tolerances (r_count).toNatClampNeg a2) (upd r_firstDays (r_count).toNatClampNeg a3) r_lastDays) dX5_add_76 5 0 rfl rfl rfl hf (fun c76 hf => ?_)
    refine j_aload_n hX dX5_add_77 rfl 1 rfl ?_
    refine j_get hX dX5_add_78 inX5 7 q78 0 rfl rfl (by decide) rfl rfl ?_
    refine j_aload_n hX dX5_add_81 rfl 1 rfl ?_
    refine j_get hX dX5_add_82 inX5 0 q71 0 rfl rfl (by decide) rfl rfl ?_
    refine j_iload hX dX5_add_85 6 rfl ?_
    refine j_iast hX (wR t ad o r_count (r_nextId + 1) (upd r_ids (r_count).toNatClampNeg r_nextId) (upd r_borrowers (r_count).toNatClampNeg a0) (upd r_pitches (r_count).toNatClampNeg a1) (upd r_tolerances (r_count).toNatClampNeg a2) (upd r_firstDays (r_count).toNatClampNeg a3) (upd r_lastDays (r_count).toNatClampNeg a4)) dX5_add_87 6 0 rfl rfl rfl hf (fun c87 hf => ?_)
    refine j_aload_n hX dX5_add_88 rfl 1 rfl ?_
    refine j_dup hX dX5_add_89 rfl ?_
    refine j_get hX dX5_add_90 inX5 0 q71 0 rfl rfl (by decide) rfl rfl ?_
    refine j_iconst hX 1 dX5_add_93 (by decide) ?_
    refine j_iadd hX dX5_add_94 ?_
    refine j_put hX (wR t ad o (r_count + 1) (r_nextId + 1) (upd r_ids (r_count).toNatClampNeg r_nextId) (upd r_borrowers (r_count).toNatClampNeg a0) (upd r_pitches (r_count).toNatClampNeg a1) (upd r_tolerances (r_count).toNatClampNeg a2) (upd r_firstDays (r_count).toNatClampNeg a3) (upd r_lastDays (r_count).toNatClampNeg a4)) tyX5 dX5_add_95 inX5 tyX5_ok nmX5 0 q71 0 rfl rfl (by decide) rfl rfl rfl rfl rfl (Nat.le_of_ble_eq_true rfl) rfl ?_
    refine j_iload hX dX5_add_98 0 rfl ?_
    cases hf
    exact j_iret hX hE dX5_add_100 (Nat.le_refl _) (Nat.le_refl _) ⟨rfl, rfl⟩
  · refine j_iconst hX (-1) dX5_add_7 (by decide) ?_
    cases hf
    exact j_iret hX hE dX5_add_8 (Nat.le_refl _) (Nat.le_refl _) ⟨rfl, rfl⟩
-- HammerDepot$Requests remove (I)V
def f_X5_remove_L21 (r_count : Int32) : Nat → Int32 → (Nat → Int32) → (Nat → Int32) → (Nat → Int32) → (Nat → Int32) → (Nat → Int32) → (Nat → Int32) → Option (Int32 × (Nat → Int32) × (Nat → Int32) × (Nat → Int32) × (Nat → Int32) × (Nat → Int32) × (Nat → Int32))
  | 0, _, _, _, _, _, _, _ => none
  | jn + 1, x2, r_ids, r_borrowers, r_pitches, r_tolerances, r_firstDays, r_lastDays =>
    if r_count ≤ x2 then
      some (x2, r_ids, r_borrowers, r_pitches, r_tolerances, r_firstDays, r_lastDays)
    else
      if 8 ≤ (x2 + 1) then
        some (x2, r_ids, r_borrowers, r_pitches, r_tolerances, r_firstDays, r_lastDays)
      else
        if jin (x2 + 1) 8 = true then
          if jin x2 8 = true then
            if jin (x2 + 1) 8 = true then
              if jin x2 8 = true then
                if jin (x2 + 1) 8 = true then
                  if jin x2 8 = true then
                    if jin (x2 + 1) 8 = true then
                      if jin x2 8 = true then
                        if jin (x2 + 1) 8 = true then
                          if jin x2 8 = true then
                            if jin (x2 + 1) 8 = true then
                              if jin x2 8 = true then
                                f_X5_remove_L21 r_count jn (x2 + 1) (upd r_ids (x2).toNatClampNeg (r_ids (x2 + 1).toNatClampNeg)) (upd r_borrowers (x2).toNatClampNeg (r_borrowers (x2 + 1).toNatClampNeg)) (upd r_pitches (x2).toNatClampNeg (r_pitches (x2 + 1).toNatClampNeg)) (upd r_tolerances (x2).toNatClampNeg (r_tolerances (x2 + 1).toNatClampNeg)) (upd r_firstDays (x2).toNatClampNeg (r_firstDays (x2 + 1).toNatClampNeg)) (upd r_lastDays (x2).toNatClampNeg (r_lastDays (x2 + 1).toNatClampNeg))
                              else none
                            else none
                          else none
                        else none
                      else none
                    else none
                  else none
                else none
              else none
            else none
          else none
        else none
def f_X5_remove (r_count : Int32) (r_ids : Nat → Int32) (r_borrowers : Nat → Int32) (r_pitches : Nat → Int32) (r_tolerances : Nat → Int32) (r_firstDays : Nat → Int32) (r_lastDays : Nat → Int32) (a0 : Int32) : Option (Int32 × (Nat → Int32) × (Nat → Int32) × (Nat → Int32) × (Nat → Int32) × (Nat → Int32) × (Nat → Int32)) :=
  Option.bind (f_X5_has r_count a0) (fun u1 =>
    if u1 = 0 then
      some (r_count, r_ids, r_borrowers, r_pitches, r_tolerances, r_firstDays, r_lastDays)
    else
      Option.bind (f_X5_remove_L21 (r_count - 1) jFU a0 r_ids r_borrowers r_pitches r_tolerances r_firstDays r_lastDays) (fun s4 =>
        some (r_count - 1, s4.2.1, s4.2.2.1, s4.2.2.2.1, s4.2.2.2.2.1, s4.2.2.2.2.2.1, s4.2.2.2.2.2.2)))
set_option maxHeartbeats 4000000 in
set_option maxRecDepth 100000 in
theorem k_X5_remove_L21 {l : Launch} {D : va_G} {t : Nat → ClassId} {ad : Nat → Nat} {o : Nat} (r_count : Int32) (r_nextId : Int32) (x1 : Int32) {X : jX} (hX : jOK X l D (jT t) cX5_remove RX5 none { frames := 1, cells := 0, slots := 0, locals := 21 } 3) :
    ∀ (jn : Nat) (x2 : Int32) (r_ids : Nat → Int32) (r_borrowers : Nat → Int32) (r_pitches : Nat → Int32) (r_tolerances : Nat → Int32) (r_firstDays : Nat → Int32) (r_lastDays : Nat → Int32) (u : Int32 × (Nat → Int32) × (Nat → Int32) × (Nat → Int32) × (Nat → Int32) × (Nat → Int32) × (Nat → Int32)) (hf : f_X5_remove_L21 r_count jn x2 r_ids r_borrowers r_pitches r_tolerances r_firstDays r_lastDays = some u) (kx : ∀ s : Int32 × (Nat → Int32) × (Nat → Int32) × (Nat → Int32) × (Nat → Int32) × (Nat → Int32) × (Nat → Int32), u = s → J X 0 0 (wR t ad o r_count r_nextId s.2.1 s.2.2.1 s.2.2.2.1 s.2.2.2.2.1 s.2.2.2.2.2.1 s.2.2.2.2.2.2) 127 [(2, .int s.1), (0, .ref (ad o)), (1, .int x1)] []), J X 0 0 (wR t ad o r_count r_nextId r_ids r_borrowers r_pitches r_tolerances r_firstDays r_lastDays) 21 [(2, .int x2), (0, .ref (ad o)), (1, .int x1)] [] := by
  intro jn
  induction jn with
  | zero => intro x2 r_ids r_borrowers r_pitches r_tolerances r_firstDays r_lastDays u hf; cases (show (none : Option (Int32 × (Nat → Int32) × (Nat → Int32) × (Nat → Int32) × (Nat → Int32) × (Nat → Int32) × (Nat → Int32))) = some u from hf)
  | succ jn ih =>
    intro x2 r_ids r_borrowers r_pitches r_tolerances r_firstDays r_lastDays u hf kx
    unfold f_X5_remove_L21 at hf
    refine j_iload_n hX dX5_remove_21 rfl 0 rfl ?_
    refine j_aload_n hX dX5_remove_22 rfl 1 rfl ?_
    refine j_get hX dX5_remove_23 inX5 0 q71 0 rfl rfl (by decide) rfl rfl ?_
    refine j_icmp_ge hX 127 dX5_remove_26 (by decide) hf (fun c26 hf => ?_) (fun c26 hf => ?_)
    · cases hf
      exact kx _ rfl
    · refine j_iload_n hX dX5_remove_29 rfl 0 rfl ?_
      refine j_iconst hX 1 dX5_remove_30 (by decide) ?_
      refine j_iadd hX dX5_remove_31 ?_
      refine j_bipush hX 8 dX5_remove_32 (by decide) ?_
      refine j_icmp_ge hX 127 dX5_remove_34 (by decide) hf (fun c34 hf => ?_) (fun c34 hf => ?_)
      · cases hf
        exact kx _ rfl
      · refine j_aload_n hX dX5_remove_37 rfl 1 rfl ?_
        refine j_get hX dX5_remove_38 inX5 2 q73 0 rfl rfl (by decide) rfl rfl ?_
        refine j_iload_n hX dX5_remove_41 rfl 0 rfl ?_
        refine j_aload_n hX dX5_remove_42 rfl 1 rfl ?_
        refine j_get hX dX5_remove_43 inX5 2 q73 0 rfl rfl (by decide) rfl rfl ?_
        refine j_iload_n hX dX5_remove_46 rfl 0 rfl ?_
        refine j_iconst hX 1 dX5_remove_47 (by decide) ?_
        refine j_iadd hX dX5_remove_48 ?_
        refine j_iald hX dX5_remove_49 1 0 rfl rfl hf (fun c49 hf => ?_)
        refine j_iast hX (wR t ad o r_count r_nextId (upd r_ids (x2).toNatClampNeg (r_ids (x2 + 1).toNatClampNeg)) r_borrowers r_pitches r_tolerances r_firstDays r_lastDays) dX5_remove_50 1 0 rfl rfl rfl hf (fun c50 hf => ?_)
        refine j_aload_n hX dX5_remove_51 rfl 1 rfl ?_
        refine j_get hX dX5_remove_52 inX5 3 q74 0 rfl rfl (by decide) rfl rfl ?_
        refine j_iload_n hX dX5_remove_55 rfl 0 rfl ?_
        refine j_aload_n hX dX5_remove_56 rfl 1 rfl ?_
        refine j_get hX dX5_remove_57 inX5 3 q74 0 rfl rfl (by decide) rfl rfl ?_
        refine j_iload_n hX dX5_remove_60 rfl 0 rfl ?_
        refine j_iconst hX 1 dX5_remove_61 (by decide) ?_
        refine j_iadd hX dX5_remove_62 ?_
        refine j_iald hX dX5_remove_63 2 0 rfl rfl hf (fun c63 hf => ?_)
        refine j_iast hX (wR t ad o r_count r_nextId (upd r_ids (x2).toNatClampNeg (r_ids (x2 + 1).toNatClampNeg)) (upd r_borrowers (x2).toNatClampNeg (r_borrowers (x2 + 1).toNatClampNeg)) r_pitches r_tolerances r_firstDays r_lastDays) dX5_remove_64 2 0 rfl rfl rfl hf (fun c64 hf => ?_)
        refine j_aload_n hX dX5_remove_65 rfl 1 rfl ?_
        refine j_get hX dX5_remove_66 inX5 4 q75 0 rfl rfl (by decide) rfl rfl ?_
        refine j_iload_n hX dX5_remove_69 rfl 0 rfl ?_
        refine j_aload_n hX dX5_remove_70 rfl 1 rfl ?_
        refine j_get hX dX5_remove_71 inX5 4 q75 0 rfl rfl (by decide) rfl rfl ?_
        refine j_iload_n hX dX5_remove_74 rfl 0 rfl ?_
        refine j_iconst hX 1 dX5_remove_75 (by decide) ?_
        refine j_iadd hX dX5_remove_76 ?_
        refine j_iald hX dX5_remove_77 3 0 rfl rfl hf (fun c77 hf => ?_)
        refine j_iast hX (wR t ad o r_count r_nextId (upd r_ids (x2).toNatClampNeg (r_ids (x2 + 1).toNatClampNeg)) (upd r_borrowers (x2).toNatClampNeg (r_borrowers (x2 + 1).toNatClampNeg)) (upd r_pitches (x2).toNatClampNeg (r_pitches (x2 + 1).toNatClampNeg)) r_tolerances r_firstDays r_lastDays) dX5_remove_78 3 0 rfl rfl rfl hf (fun c78 hf => ?_)
        refine j_aload_n hX dX5_remove_79 rfl 1 rfl ?_
        refine j_get hX dX5_remove_80 inX5 5 q76 0 rfl rfl (by decide) rfl rfl ?_
        refine j_iload_n hX dX5_remove_83 rfl 0 rfl ?_
        refine j_aload_n hX dX5_remove_84 rfl 1 rfl ?_
        refine j_get hX dX5_remove_85 inX5 5 q76 0 rfl rfl (by decide) rfl rfl ?_
        refine j_iload_n hX dX5_remove_88 rfl 0 rfl ?_
        refine j_iconst hX 1 dX5_remove_89 (by decide) ?_
        refine j_iadd hX dX5_remove_90 ?_
        refine j_iald hX dX5_remove_91 4 0 rfl rfl hf (fun c91 hf => ?_)
        refine j_iast hX (wR t ad o r_count r_nextId (upd r_ids (x2).toNatClampNeg (r_ids (x2 + 1).toNatClampNeg)) (upd r_borrowers (x2).toNatClampNeg (r_borrowers (x2 + 1).toNatClampNeg)) (upd r_pitches (x2).toNatClampNeg (r_pitches (x2 + 1).toNatClampNeg)) (upd r_tolerances (x2).toNatClampNeg (r_tolerances (x2 + 1).toNatClampNeg)) r_firstDays r_lastDays) dX5_remove_92 4 0 rfl rfl rfl hf (fun c92 hf => ?_)
        refine j_aload_n hX dX5_remove_93 rfl 1 rfl ?_
        refine j_get hX dX5_remove_94 inX5 6 q77 0 rfl rfl (by decide) rfl rfl ?_
        refine j_iload_n hX dX5_remove_97 rfl 0 rfl ?_
        refine j_aload_n hX dX5_remove_98 rfl 1 rfl ?_
        refine j_get hX dX5_remove_99 inX5 6 q77 0 rfl rfl (by decide) rfl rfl ?_
        refine j_iload_n hX dX5_remove_102 rfl 0 rfl ?_
        refine j_iconst hX 1 dX5_remove_103 (by decide) ?_
        refine j_iadd hX dX5_remove_104 ?_
        refine j_iald hX dX5_remove_105 5 0 rfl rfl hf (fun c105 hf => ?_)
        refine j_iast hX (wR t ad o r_count r_nextId (upd r_ids (x2).toNatClampNeg (r_ids (x2 + 1).toNatClampNeg)) (upd r_borrowers (x2).toNatClampNeg (r_borrowers (x2 + 1).toNatClampNeg)) (upd r_pitches (x2).toNatClampNeg (r_pitches (x2 + 1).toNatClampNeg)) (upd r_tolerances (x2).toNatClampNeg (r_tolerances (x2 + 1).toNatClampNeg)) (upd r_firstDays (x2).toNatClampNeg (r_firstDays (x2 + 1).toNatClampNeg)) r_lastDays) dX5_remove_106 5 0 rfl rfl rfl hf (fun c106 hf => ?_)
        refine j_aload_n hX dX5_remove_107 rfl 1 rfl ?_
        refine j_get hX dX5_remove_108 inX5 7 q78 0 rfl rfl (by decide) rfl rfl ?_
        refine j_iload_n hX dX5_remove_111 rfl 0 rfl ?_
        refine j_aload_n hX dX5_remove_112 rfl 1 rfl ?_
        refine j_get hX dX5_remove_113 inX5 7 q78 0 rfl rfl (by decide) rfl rfl ?_
        refine j_iload_n hX dX5_remove_116 rfl 0 rfl ?_
        refine j_iconst hX 1 dX5_remove_117 (by decide) ?_
        refine j_iadd hX dX5_remove_118 ?_
        refine j_iald hX dX5_remove_119 6 0 rfl rfl hf (fun c119 hf => ?_)
        refine j_iast hX (wR t ad o r_count r_nextId (upd r_ids (x2).toNatClampNeg (r_ids (x2 + 1).toNatClampNeg)) (upd r_borrowers (x2).toNatClampNeg (r_borrowers (x2 + 1).toNatClampNeg)) (upd r_pitches (x2).toNatClampNeg (r_pitches (x2 + 1).toNatClampNeg)) (upd r_tolerances (x2).toNatClampNeg (r_tolerances (x2 + 1).toNatClampNeg)) (upd r_firstDays (x2).toNatClampNeg (r_firstDays (x2 + 1).toNatClampNeg)) (upd r_lastDays (x2).toNatClampNeg (r_lastDays (x2 + 1).toNatClampNeg))) dX5_remove_120 6 0 rfl rfl rfl hf (fun c120 hf => ?_)
        refine j_iinc hX (x2 + 1) [(2, .int (x2 + 1)), (0, .ref (ad o)), (1, .int x1)] dX5_remove_121 0 rfl rfl (by decide) rfl ?_
        refine j_goto hX 21 dX5_remove_124 (by decide) ?_
        exact ih (x2 + 1) (upd r_ids (x2).toNatClampNeg (r_ids (x2 + 1).toNatClampNeg)) (upd r_borrowers (x2).toNatClampNeg (r_borrowers (x2 + 1).toNatClampNeg)) (upd r_pitches (x2).toNatClampNeg (r_pitches (x2 + 1).toNatClampNeg)) (upd r_tolerances (x2).toNatClampNeg (r_tolerances (x2 + 1).toNatClampNeg)) (upd r_firstDays (x2).toNatClampNeg (r_firstDays (x2 + 1).toNatClampNeg)) (upd r_lastDays (x2).toNatClampNeg (r_lastDays (x2 + 1).toNatClampNeg)) u hf kx
set_option maxHeartbeats 4000000 in
set_option maxRecDepth 100000 in
theorem k_X5_remove {l : Launch} {D : va_G} {t : Nat → ClassId} {ad : Nat → Nat} {o : Nat} (r_count : Int32) (r_nextId : Int32) (r_ids : Nat → Int32) (r_borrowers : Nat → Int32) (r_pitches : Nat → Int32) (r_tolerances : Nat → Int32) (r_firstDays : Nat → Int32) (r_lastDays : Nat → Int32) (a0 : Int32) (u : Int32 × (Nat → Int32) × (Nat → Int32) × (Nat → Int32) × (Nat → Int32) × (Nat → Int32) × (Nat → Int32)) (hf : f_X5_remove r_count r_ids r_borrowers r_pitches r_tolerances r_firstDays r_lastDays a0 = some u) : cm l D (jT t) yX5_remove cX5_remove 3 none { frames := 1, cells := 0, slots := 0, locals := 21 } [.ref (ad o), .int a0] (wR t ad o r_count r_nextId r_ids r_borrowers r_pitches r_tolerances r_firstDays r_lastDays) (fun v w => v = none ∧ w = wR t ad o u.1 r_nextId u.2.1 u.2.2.1 u.2.2.2.1 u.2.2.2.2.1 u.2.2.2.2.2.1 u.2.2.2.2.2.2) := by
  refine cm_of RX5 rfl (by decide +kernel) (Nat.le_of_ble_eq_true rfl) (fun X hX hE => ?_)
  change J X 0 0 (wR t ad o r_count r_nextId r_ids r_borrowers r_pitches r_tolerances r_firstDays r_lastDays) 0 [(0, .ref (ad o)), (1, .int a0)] []
  unfold f_X5_remove at hf
  refine j_aload_n hX dX5_remove_0 rfl 0 rfl ?_
  refine j_iload_n hX dX5_remove_1 rfl 1 rfl ?_
  obtain ⟨u1, h2, hf⟩ := jbind hf
  refine j_callV (st := []) hX (k_X5_has (l := l) (D := D) (t := t) (ad := ad) (o := o) r_count r_nextId r_ids r_borrowers r_pitches r_tolerances r_firstDays r_lastDays a0 u1 h2) q239 q240 q241 q5 q242 (n9 := 1) rfl ⟨by decide +kernel, by decide +kernel⟩ 0 rfl rfl rfl dX5_remove_2 (Nat.le_of_ble_eq_true rfl) ⟨Nat.le_refl _, Nat.le_refl _⟩ (fun w : va_W => w) jFr_id rfl rfl (fun v w hvw => ?_)
  obtain ⟨rfl, rfl⟩ := hvw
  change J X 0 0 (wR t ad o r_count r_nextId r_ids r_borrowers r_pitches r_tolerances r_firstDays r_lastDays) 5 [(0, .ref (ad o)), (1, .int a0)] [.int u1]
  refine j_if_ne hX 9 dX5_remove_5 (by decide) hf (fun c5 hf => ?_) (fun c5 hf => ?_)
  · refine j_aload_n hX dX5_remove_9 rfl 0 rfl ?_
    refine j_dup hX dX5_remove_10 rfl ?_
    refine j_get hX dX5_remove_11 inX5 0 q71 0 rfl rfl (by decide) rfl rfl ?_
    refine j_iconst hX 1 dX5_remove_14 (by decide) ?_
    refine j_isub hX dX5_remove_15 ?_
    refine j_put hX (wR t ad o (r_count - 1) r_nextId r_ids r_borrowers r_pitches r_tolerances r_firstDays r_lastDays) tyX5 dX5_remove_16 inX5 tyX5_ok nmX5 0 q71 0 rfl rfl (by decide) rfl rfl rfl rfl rfl (Nat.le_of_ble_eq_true rfl) rfl ?_
    refine j_iload_n hX dX5_remove_19 rfl 1 rfl ?_
    refine j_istore_n hX [(2, .int a0), (0, .ref (ad o)), (1, .int a0)] dX5_remove_20 rfl (by decide) rfl ?_
    obtain ⟨s4, h5, hf⟩ := jbind hf
    refine k_X5_remove_L21 (ad := ad) (r_count - 1) r_nextId a0 hX jFU a0 r_ids r_borrowers r_pitches r_tolerances r_firstDays r_lastDays s4 h5 (fun s40 es4 => ?_)
    subst es4
    cases hf
    exact j_vret hX hE dX5_remove_127 (Nat.le_refl _) (Nat.le_refl _) ⟨rfl, rfl⟩
  · cases hf
    exact j_vret hX hE dX5_remove_8 (Nat.le_refl _) (Nat.le_refl _) ⟨rfl, rfl⟩

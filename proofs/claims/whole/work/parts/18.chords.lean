-- HammerDepot$Chords loudnessAbove (I)I
def f_X1_loudnessAbove (a0 : Int32) : Option (Int32) :=
  if a0 = 0 then
    some 8
  else
    if a0 = 12 then
      some 4
    else
      if a0 = 19 then
        some 2
      else
        if a0 = 24 then
          some 1
        else
          some 0
set_option maxHeartbeats 4000000 in
set_option maxRecDepth 100000 in
theorem k_X1_loudnessAbove {l : Launch} {D : va_G} {t : Nat → ClassId} {ad : Nat → Nat}  (a0 : Int32) (u : Int32) (hf : f_X1_loudnessAbove a0 = some u) : cm l D (jT t) yX1_loudnessAbove cX1_loudnessAbove 1 (some FieldType.int) { frames := 0, cells := 0, slots := 0, locals := 0 } [.int a0] ([]) (fun v w => v = (some (.int u)) ∧ w = []) := by
  refine cm_of RX1 rfl (by decide +kernel) (Nat.le_of_ble_eq_true rfl) (fun X hX hE => ?_)
  change J X 0 0 ([]) 0 [(0, .int a0)] []
  unfold f_X1_loudnessAbove at hf
  refine j_iload_n hX dX1_loudnessAbove_0 rfl 0 rfl ?_
  by_cases n1_0 : a0 = 0
  · rw [if_pos n1_0] at hf
    refine j_look_c hX 53 dX1_loudnessAbove_1 [(0, 44), (12, 47), (19, 49), (24, 51)] (by decide) 0 44 n1_0 (by decide) ?_
    refine j_bipush hX 8 dX1_loudnessAbove_44 (by decide) ?_
    cases hf
    exact j_iret hX hE dX1_loudnessAbove_46 (Nat.le_refl _) (Nat.le_refl _) ⟨rfl, rfl⟩
  rw [if_neg n1_0] at hf
  by_cases n1_1 : a0 = 12
  · rw [if_pos n1_1] at hf
    refine j_look_c hX 53 dX1_loudnessAbove_1 [(0, 44), (12, 47), (19, 49), (24, 51)] (by decide) 12 47 n1_1 (by decide) ?_
    refine j_iconst hX 4 dX1_loudnessAbove_47 (by decide) ?_
    cases hf
    exact j_iret hX hE dX1_loudnessAbove_48 (Nat.le_refl _) (Nat.le_refl _) ⟨rfl, rfl⟩
  rw [if_neg n1_1] at hf
  by_cases n1_2 : a0 = 19
  · rw [if_pos n1_2] at hf
    refine j_look_c hX 53 dX1_loudnessAbove_1 [(0, 44), (12, 47), (19, 49), (24, 51)] (by decide) 19 49 n1_2 (by decide) ?_
    refine j_iconst hX 2 dX1_loudnessAbove_49 (by decide) ?_
    cases hf
    exact j_iret hX hE dX1_loudnessAbove_50 (Nat.le_refl _) (Nat.le_refl _) ⟨rfl, rfl⟩
  rw [if_neg n1_2] at hf
  by_cases n1_3 : a0 = 24
  · rw [if_pos n1_3] at hf
    refine j_look_c hX 53 dX1_loudnessAbove_1 [(0, 44), (12, 47), (19, 49), (24, 51)] (by decide) 24 51 n1_3 (by decide) ?_
    refine j_iconst hX 1 dX1_loudnessAbove_51 (by decide) ?_
    cases hf
    exact j_iret hX hE dX1_loudnessAbove_52 (Nat.le_refl _) (Nat.le_refl _) ⟨rfl, rfl⟩
  rw [if_neg n1_3] at hf
  refine j_look_d hX 53 dX1_loudnessAbove_1 [(0, 44), (12, 47), (19, 49), (24, 51)] (by decide) ⟨n1_0, n1_1, n1_2, n1_3, trivial⟩ ?_
  refine j_iconst hX 0 dX1_loudnessAbove_53 (by decide) ?_
  cases hf
  exact j_iret hX hE dX1_loudnessAbove_54 (Nat.le_refl _) (Nat.le_refl _) ⟨rfl, rfl⟩
-- HammerDepot$Chords loudnessOf (LHammerDepot$Hammers;II)I
def f_X1_loudnessOf_L17 (h_count : Int32) (h_pitches : Nat → Int32) (h_contents : Nat → Int32) (x1 : Int32) (x2 : Int32) : Nat → Int32 → Int32 → Option (Int32 × Int32)
  | 0, _, _ => none
  | jn + 1, x4, x3 =>
    if 6 ≤ x4 then
      some (x4, x3)
    else
      Option.bind (f_X2_contentOf h_contents x1 x4) (fun u1 =>
        if u1 = (-1) then
          f_X1_loudnessOf_L17 h_count h_pitches h_contents x1 x2 jn (x4 + 1) x3
        else
          Option.bind (f_X2_pitchOf h_count h_pitches u1) (fun u3 =>
            Option.bind (f_X1_loudnessAbove (x2 - u3)) (fun u5 =>
              f_X1_loudnessOf_L17 h_count h_pitches h_contents x1 x2 jn (x4 + 1) (x3 + u5))))
def f_X1_loudnessOf (h_count : Int32) (h_pitches : Nat → Int32) (h_contents : Nat → Int32) (a1 : Int32) (a2 : Int32) : Option (Int32) :=
  if a2 < 0 then
    some 0
  else
    if a2 ≤ 84 then
      Option.bind (f_X1_loudnessOf_L17 h_count h_pitches h_contents a1 a2 jFU 0 0) (fun s8 =>
        some s8.2)
    else
      some 0
set_option maxHeartbeats 4000000 in
set_option maxRecDepth 100000 in
theorem k_X1_loudnessOf_L17 {l : Launch} {D : va_G} {t : Nat → ClassId} {ad : Nat → Nat} {o : Nat} (h_count : Int32) (h_pitches : Nat → Int32) (h_contents : Nat → Int32) (x1 : Int32) (x2 : Int32) (h_wears : Nat → Int32) (h_slots : Nat → Int32) (h_borrowers : Nat → Int32) (h_dueDays : Nat → Int32) {X : jX} (hX : jOK X l D (jT t) cX1_loudnessOf RX1 (some FieldType.int) { frames := 2, cells := 0, slots := 0, locals := 42 } 6) :
    ∀ (jn : Nat) (x4 : Int32) (x3 : Int32) (u : Int32 × Int32) (hf : f_X1_loudnessOf_L17 h_count h_pitches h_contents x1 x2 jn x4 x3 = some u) (kx : ∀ s : Int32 × Int32, u = s → J X 0 0 (wH t ad o h_count h_pitches h_wears h_slots h_borrowers h_dueDays h_contents) 59 [(4, .int s.1), (3, .int s.2), (0, .ref (ad o)), (1, .int x1), (2, .int x2)] []), J X 0 0 (wH t ad o h_count h_pitches h_wears h_slots h_borrowers h_dueDays h_contents) 17 [(4, .int x4), (3, .int x3), (0, .ref (ad o)), (1, .int x1), (2, .int x2)] [] := by
  intro jn
  induction jn with
  | zero => intro x4 x3 u hf; cases (show (none : Option (Int32 × Int32)) = some u from hf)
  | succ jn ih =>
    intro x4 x3 u hf kx
    unfold f_X1_loudnessOf_L17 at hf
    refine j_iload hX dX1_loudnessOf_17 0 rfl ?_
    refine j_bipush hX 6 dX1_loudnessOf_19 (by decide) ?_
    refine j_icmp_ge hX 59 dX1_loudnessOf_21 (by decide) hf (fun c21 hf => ?_) (fun c21 hf => ?_)
    · cases hf
      exact kx _ rfl
    · refine j_aload_n hX dX1_loudnessOf_24 rfl 2 rfl ?_
      refine j_iload_n hX dX1_loudnessOf_25 rfl 3 rfl ?_
      refine j_iload hX dX1_loudnessOf_26 0 rfl ?_
      obtain ⟨u1, h2, hf⟩ := jbind hf
      refine j_callV (st := []) hX (k_X2_contentOf (l := l) (D := D) (t := t) (ad := ad) (o := o) h_count h_pitches h_wears h_slots h_borrowers h_dueDays h_contents x1 x4 u1 h2) q939 q540 q541 q3 q542 (n9 := 2) rfl ⟨by decide +kernel, by decide +kernel⟩ 0 rfl rfl rfl dX1_loudnessOf_28 (Nat.le_of_ble_eq_true rfl) ⟨Nat.le_refl _, Nat.le_refl _⟩ (fun w : va_W => w) jFr_id rfl rfl (fun v w hvw => ?_)
      obtain ⟨rfl, rfl⟩ := hvw
      change J X 0 0 (wH t ad o h_count h_pitches h_wears h_slots h_borrowers h_dueDays h_contents) 31 [(4, .int x4), (3, .int x3), (0, .ref (ad o)), (1, .int x1), (2, .int x2)] [.int u1]
      refine j_istore hX [(5, .int u1), (4, .int x4), (3, .int x3), (0, .ref (ad o)), (1, .int x1), (2, .int x2)] dX1_loudnessOf_31 (by decide) rfl ?_
      refine j_iload hX dX1_loudnessOf_33 0 rfl ?_
      refine j_iconst hX (-1) dX1_loudnessOf_35 (by decide) ?_
      refine j_icmp_eq hX 53 dX1_loudnessOf_36 (by decide) hf (fun c36 hf => ?_) (fun c36 hf => ?_)
      · refine j_iinc hX (x4 + 1) [(4, .int (x4 + 1)), (5, .int u1), (3, .int x3), (0, .ref (ad o)), (1, .int x1), (2, .int x2)] dX1_loudnessOf_53 1 rfl rfl (by decide) rfl ?_
        refine j_goto hX 17 dX1_loudnessOf_56 (by decide) ?_
        refine j_sub hX [(4, .int (x4 + 1)), (3, .int x3), (0, .ref (ad o)), (1, .int x1), (2, .int x2)] [0, 2, 3, 4, 5] rfl ?_
        exact ih (x4 + 1) x3 u hf kx
      · refine j_iload_n hX dX1_loudnessOf_39 rfl 2 rfl ?_
        refine j_iload_n hX dX1_loudnessOf_40 rfl 5 rfl ?_
        refine j_aload_n hX dX1_loudnessOf_41 rfl 3 rfl ?_
        refine j_iload hX dX1_loudnessOf_42 0 rfl ?_
        obtain ⟨u3, h4, hf⟩ := jbind hf
        refine j_callV (st := [.int x2, .int x3]) hX (k_X2_pitchOf (l := l) (D := D) (t := t) (ad := ad) (o := o) h_count h_pitches h_wears h_slots h_borrowers h_dueDays h_contents u1 u3 h4) q493 q267 q268 q3 q269 (n9 := 1) rfl ⟨by decide +kernel, by decide +kernel⟩ 0 rfl rfl rfl dX1_loudnessOf_44 (Nat.le_of_ble_eq_true rfl) ⟨Nat.le_refl _, Nat.le_refl _⟩ (fun w : va_W => w) jFr_id rfl rfl (fun v w hvw => ?_)
        obtain ⟨rfl, rfl⟩ := hvw
        change J X 0 0 (wH t ad o h_count h_pitches h_wears h_slots h_borrowers h_dueDays h_contents) 47 [(5, .int u1), (4, .int x4), (3, .int x3), (0, .ref (ad o)), (1, .int x1), (2, .int x2)] [.int u3, .int x2, .int x3]
        refine j_isub hX dX1_loudnessOf_47 ?_
        obtain ⟨u5, h6, hf⟩ := jbind hf
        refine j_callS (st := [.int x3]) hX (k_X1_loudnessAbove (l := l) (D := D) (t := t) (ad := ad)  (x2 - u3) u5 h6) q498 q499 q9 q500 (n9 := 1) rfl ⟨by decide +kernel, by decide +kernel⟩ dX1_loudnessOf_48 (Nat.le_of_ble_eq_true rfl) ⟨Nat.le_refl _, Nat.le_refl _⟩ (fun w : va_W => w ++ (wH t ad o h_count h_pitches h_wears h_slots h_borrowers h_dueDays h_contents)) (jFr_r (wH t ad o h_count h_pitches h_wears h_slots h_borrowers h_dueDays h_contents)) rfl rfl (fun v w hvw => ?_)
        obtain ⟨rfl, rfl⟩ := hvw
        change J X 0 0 (wH t ad o h_count h_pitches h_wears h_slots h_borrowers h_dueDays h_contents) 51 [(5, .int u1), (4, .int x4), (3, .int x3), (0, .ref (ad o)), (1, .int x1), (2, .int x2)] [.int u5, .int x3]
        refine j_iadd hX dX1_loudnessOf_51 ?_
        refine j_istore_n hX [(3, .int (x3 + u5)), (5, .int u1), (4, .int x4), (0, .ref (ad o)), (1, .int x1), (2, .int x2)] dX1_loudnessOf_52 rfl (by decide) rfl ?_
        refine j_iinc hX (x4 + 1) [(4, .int (x4 + 1)), (3, .int (x3 + u5)), (5, .int u1), (0, .ref (ad o)), (1, .int x1), (2, .int x2)] dX1_loudnessOf_53 2 rfl rfl (by decide) rfl ?_
        refine j_goto hX 17 dX1_loudnessOf_56 (by decide) ?_
        refine j_sub hX [(4, .int (x4 + 1)), (3, .int (x3 + u5)), (0, .ref (ad o)), (1, .int x1), (2, .int x2)] [0, 1, 3, 4, 5] rfl ?_
        exact ih (x4 + 1) (x3 + u5) u hf kx
set_option maxHeartbeats 4000000 in
set_option maxRecDepth 100000 in
theorem k_X1_loudnessOf {l : Launch} {D : va_G} {t : Nat → ClassId} {ad : Nat → Nat} {o : Nat} (h_count : Int32) (h_pitches : Nat → Int32) (h_wears : Nat → Int32) (h_slots : Nat → Int32) (h_borrowers : Nat → Int32) (h_dueDays : Nat → Int32) (h_contents : Nat → Int32) (a1 : Int32) (a2 : Int32) (u : Int32) (hf : f_X1_loudnessOf h_count h_pitches h_contents a1 a2 = some u) : cm l D (jT t) yX1_loudnessOf cX1_loudnessOf 6 (some FieldType.int) { frames := 2, cells := 0, slots := 0, locals := 42 } [.ref (ad o), .int a1, .int a2] (wH t ad o h_count h_pitches h_wears h_slots h_borrowers h_dueDays h_contents) (fun v w => v = (some (.int u)) ∧ w = wH t ad o h_count h_pitches h_wears h_slots h_borrowers h_dueDays h_contents) := by
  refine cm_of RX1 rfl (by decide +kernel) (Nat.le_of_ble_eq_true rfl) (fun X hX hE => ?_)
  change J X 0 0 (wH t ad o h_count h_pitches h_wears h_slots h_borrowers h_dueDays h_contents) 0 [(0, .ref (ad o)), (1, .int a1), (2, .int a2)] []
  unfold f_X1_loudnessOf at hf
  refine j_iload_n hX dX1_loudnessOf_0 rfl 2 rfl ?_
  refine j_if_lt hX 10 dX1_loudnessOf_1 (by decide) hf (fun c1 hf => ?_) (fun c1 hf => ?_)
  · refine j_iconst hX 0 dX1_loudnessOf_10 (by decide) ?_
    cases hf
    exact j_iret hX hE dX1_loudnessOf_11 (Nat.le_refl _) (Nat.le_refl _) ⟨rfl, rfl⟩
  · refine j_iload_n hX dX1_loudnessOf_4 rfl 2 rfl ?_
    refine j_bipush hX 84 dX1_loudnessOf_5 (by decide) ?_
    refine j_icmp_le hX 12 dX1_loudnessOf_7 (by decide) hf (fun c7 hf => ?_) (fun c7 hf => ?_)
    · refine j_iconst hX 0 dX1_loudnessOf_12 (by decide) ?_
      refine j_istore_n hX [(3, .int 0), (0, .ref (ad o)), (1, .int a1), (2, .int a2)] dX1_loudnessOf_13 rfl (by decide) rfl ?_
      refine j_iconst hX 0 dX1_loudnessOf_14 (by decide) ?_
      refine j_istore hX [(4, .int 0), (3, .int 0), (0, .ref (ad o)), (1, .int a1), (2, .int a2)] dX1_loudnessOf_15 (by decide) rfl ?_
      obtain ⟨s8, h9, hf⟩ := jbind hf
      refine k_X1_loudnessOf_L17 (ad := ad) h_count h_pitches h_contents a1 a2 h_wears h_slots h_borrowers h_dueDays hX jFU 0 0 s8 h9 (fun s80 es8 => ?_)
      subst es8
      refine j_iload_n hX dX1_loudnessOf_59 rfl 1 rfl ?_
      cases hf
      exact j_iret hX hE dX1_loudnessOf_60 (Nat.le_refl _) (Nat.le_refl _) ⟨rfl, rfl⟩
    · refine j_iconst hX 0 dX1_loudnessOf_10 (by decide) ?_
      cases hf
      exact j_iret hX hE dX1_loudnessOf_11 (Nat.le_refl _) (Nat.le_refl _) ⟨rfl, rfl⟩
-- HammerDepot$Chords loudestOf (LHammerDepot$Hammers;I)I
def f_X1_loudestOf_L7 (h_count : Int32) (h_pitches : Nat → Int32) (h_contents : Nat → Int32) (x1 : Int32) : Nat → Int32 → Int32 → Int32 → Option (Int32 × Int32 × Int32)
  | 0, _, _, _ => none
  | jn + 1, x4, x3, x2 =>
    if 84 < x4 then
      some (x4, x3, x2)
    else
      Option.bind (f_X1_loudnessOf h_count h_pitches h_contents x1 x4) (fun u1 =>
        if u1 ≤ x3 then
          f_X1_loudestOf_L7 h_count h_pitches h_contents x1 jn (x4 + 1) x3 x2
        else
          f_X1_loudestOf_L7 h_count h_pitches h_contents x1 jn (x4 + 1) u1 x4)
def f_X1_loudestOf (h_count : Int32) (h_pitches : Nat → Int32) (h_contents : Nat → Int32) (a1 : Int32) : Option (Int32) :=
  Option.bind (f_X1_loudestOf_L7 h_count h_pitches h_contents a1 jFU 0 0 0) (fun s4 =>
    some s4.2.2)
set_option maxHeartbeats 4000000 in
set_option maxRecDepth 100000 in
theorem k_X1_loudestOf_L7 {l : Launch} {D : va_G} {t : Nat → ClassId} {ad : Nat → Nat} {o : Nat} (h_count : Int32) (h_pitches : Nat → Int32) (h_contents : Nat → Int32) (x1 : Int32) (h_wears : Nat → Int32) (h_slots : Nat → Int32) (h_borrowers : Nat → Int32) (h_dueDays : Nat → Int32) {X : jX} (hX : jOK X l D (jT t) cX1_loudestOf RX1 (some FieldType.int) { frames := 3, cells := 0, slots := 0, locals := 67 } 6) :
    ∀ (jn : Nat) (x4 : Int32) (x3 : Int32) (x2 : Int32) (u : Int32 × Int32 × Int32) (hf : f_X1_loudestOf_L7 h_count h_pitches h_contents x1 jn x4 x3 x2 = some u) (kx : ∀ s : Int32 × Int32 × Int32, u = s → J X 0 0 (wH t ad o h_count h_pitches h_wears h_slots h_borrowers h_dueDays h_contents) 41 [(4, .int s.1), (3, .int s.2.1), (2, .int s.2.2), (0, .ref (ad o)), (1, .int x1)] []), J X 0 0 (wH t ad o h_count h_pitches h_wears h_slots h_borrowers h_dueDays h_contents) 7 [(4, .int x4), (3, .int x3), (2, .int x2), (0, .ref (ad o)), (1, .int x1)] [] := by
  intro jn
  induction jn with
  | zero => intro x4 x3 x2 u hf; cases (show (none : Option (Int32 × Int32 × Int32)) = some u from hf)
  | succ jn ih =>
    intro x4 x3 x2 u hf kx
    unfold f_X1_loudestOf_L7 at hf
    refine j_iload hX dX1_loudestOf_7 0 rfl ?_
    refine j_bipush hX 84 dX1_loudestOf_9 (by decide) ?_
    refine j_icmp_gt hX 41 dX1_loudestOf_11 (by decide) hf (fun c11 hf => ?_) (fun c11 hf => ?_)
    · cases hf
      exact kx _ rfl
    · refine j_aload_n hX dX1_loudestOf_14 rfl 3 rfl ?_
      refine j_iload_n hX dX1_loudestOf_15 rfl 4 rfl ?_
      refine j_iload hX dX1_loudestOf_16 0 rfl ?_
      obtain ⟨u1, h2, hf⟩ := jbind hf
      refine j_callS (st := []) hX (k_X1_loudnessOf (l := l) (D := D) (t := t) (ad := ad) (o := o) h_count h_pitches h_wears h_slots h_borrowers h_dueDays h_contents x1 x4 u1 h2) q954 q937 q9 q938 (n9 := 3) rfl ⟨by decide +kernel, by decide +kernel⟩ dX1_loudestOf_18 (Nat.le_of_ble_eq_true rfl) ⟨Nat.le_refl _, Nat.le_refl _⟩ (fun w : va_W => w) jFr_id rfl rfl (fun v w hvw => ?_)
      obtain ⟨rfl, rfl⟩ := hvw
      change J X 0 0 (wH t ad o h_count h_pitches h_wears h_slots h_borrowers h_dueDays h_contents) 21 [(4, .int x4), (3, .int x3), (2, .int x2), (0, .ref (ad o)), (1, .int x1)] [.int u1]
      refine j_istore hX [(5, .int u1), (4, .int x4), (3, .int x3), (2, .int x2), (0, .ref (ad o)), (1, .int x1)] dX1_loudestOf_21 (by decide) rfl ?_
      refine j_iload hX dX1_loudestOf_23 0 rfl ?_
      refine j_iload_n hX dX1_loudestOf_25 rfl 2 rfl ?_
      refine j_icmp_le hX 35 dX1_loudestOf_26 (by decide) hf (fun c26 hf => ?_) (fun c26 hf => ?_)
      · refine j_iinc hX (x4 + 1) [(4, .int (x4 + 1)), (5, .int u1), (3, .int x3), (2, .int x2), (0, .ref (ad o)), (1, .int x1)] dX1_loudestOf_35 1 rfl rfl (by decide) rfl ?_
        refine j_goto hX 7 dX1_loudestOf_38 (by decide) ?_
        refine j_sub hX [(4, .int (x4 + 1)), (3, .int x3), (2, .int x2), (0, .ref (ad o)), (1, .int x1)] [0, 2, 3, 4, 5] rfl ?_
        exact ih (x4 + 1) x3 x2 u hf kx
      · refine j_iload hX dX1_loudestOf_29 0 rfl ?_
        refine j_istore_n hX [(3, .int u1), (5, .int u1), (4, .int x4), (2, .int x2), (0, .ref (ad o)), (1, .int x1)] dX1_loudestOf_31 rfl (by decide) rfl ?_
        refine j_iload hX dX1_loudestOf_32 2 rfl ?_
        refine j_istore_n hX [(2, .int x4), (3, .int u1), (5, .int u1), (4, .int x4), (0, .ref (ad o)), (1, .int x1)] dX1_loudestOf_34 rfl (by decide) rfl ?_
        refine j_iinc hX (x4 + 1) [(4, .int (x4 + 1)), (2, .int x4), (3, .int u1), (5, .int u1), (0, .ref (ad o)), (1, .int x1)] dX1_loudestOf_35 3 rfl rfl (by decide) rfl ?_
        refine j_goto hX 7 dX1_loudestOf_38 (by decide) ?_
        refine j_sub hX [(4, .int (x4 + 1)), (3, .int u1), (2, .int x4), (0, .ref (ad o)), (1, .int x1)] [0, 2, 1, 4, 5] rfl ?_
        exact ih (x4 + 1) u1 x4 u hf kx
set_option maxHeartbeats 4000000 in
set_option maxRecDepth 100000 in
theorem k_X1_loudestOf {l : Launch} {D : va_G} {t : Nat → ClassId} {ad : Nat → Nat} {o : Nat} (h_count : Int32) (h_pitches : Nat → Int32) (h_wears : Nat → Int32) (h_slots : Nat → Int32) (h_borrowers : Nat → Int32) (h_dueDays : Nat → Int32) (h_contents : Nat → Int32) (a1 : Int32) (u : Int32) (hf : f_X1_loudestOf h_count h_pitches h_contents a1 = some u) : cm l D (jT t) yX1_loudestOf cX1_loudestOf 6 (some FieldType.int) { frames := 3, cells := 0, slots := 0, locals := 67 } [.ref (ad o), .int a1] (wH t ad o h_count h_pitches h_wears h_slots h_borrowers h_dueDays h_contents) (fun v w => v = (some (.int u)) ∧ w = wH t ad o h_count h_pitches h_wears h_slots h_borrowers h_dueDays h_contents) := by
  refine cm_of RX1 rfl (by decide +kernel) (Nat.le_of_ble_eq_true rfl) (fun X hX hE => ?_)
  change J X 0 0 (wH t ad o h_count h_pitches h_wears h_slots h_borrowers h_dueDays h_contents) 0 [(0, .ref (ad o)), (1, .int a1)] []
  unfold f_X1_loudestOf at hf
  refine j_iconst hX 0 dX1_loudestOf_0 (by decide) ?_
  refine j_istore_n hX [(2, .int 0), (0, .ref (ad o)), (1, .int a1)] dX1_loudestOf_1 rfl (by decide) rfl ?_
  refine j_iconst hX 0 dX1_loudestOf_2 (by decide) ?_
  refine j_istore_n hX [(3, .int 0), (2, .int 0), (0, .ref (ad o)), (1, .int a1)] dX1_loudestOf_3 rfl (by decide) rfl ?_
  refine j_iconst hX 0 dX1_loudestOf_4 (by decide) ?_
  refine j_istore hX [(4, .int 0), (3, .int 0), (2, .int 0), (0, .ref (ad o)), (1, .int a1)] dX1_loudestOf_5 (by decide) rfl ?_
  obtain ⟨s4, h5, hf⟩ := jbind hf
  refine k_X1_loudestOf_L7 (ad := ad) h_count h_pitches h_contents a1 h_wears h_slots h_borrowers h_dueDays hX jFU 0 0 0 s4 h5 (fun s40 es4 => ?_)
  subst es4
  refine j_iload_n hX dX1_loudestOf_41 rfl 2 rfl ?_
  cases hf
  exact j_iret hX hE dX1_loudestOf_42 (Nat.le_refl _) (Nat.le_refl _) ⟨rfl, rfl⟩
-- HammerDepot$Chords between (II)I
def f_X1_between_L13 (x4 : Int32) (x0 : Int32) (x1 : Int32) : Nat → Int32 → Int32 → Option (Int32 × Int32)
  | 0, _, _ => none
  | jn + 1, x5, x2 =>
    if x4 ≤ x5 then
      some (x5, x2)
    else
      if jin x5 4 = true then
        Option.bind (f_X1_loudnessAbove (jOverI (x5).toNatClampNeg)) (fun u1 =>
          Option.bind (f_X1_loudnessAbove ((x0 + (jOverI (x5).toNatClampNeg)) - x1)) (fun u3 =>
            f_X1_between_L13 x4 x0 x1 jn (x5 + 1) (x2 + (jmin u1 u3))))
      else none
def f_X1_between (a0 : Int32) (a1 : Int32) : Option (Int32) :=
  Option.bind (f_X1_between_L13 4 a0 a1 jFU 0 0) (fun s6 =>
    some s6.2)
set_option maxHeartbeats 4000000 in
set_option maxRecDepth 100000 in
theorem k_X1_between_L13 {l : Launch} {D : va_G} {t : Nat → ClassId} {ad : Nat → Nat} (x4 : Int32) (x0 : Int32) (x1 : Int32)  {X : jX} (hX : jOK X l D (jT t) cX1_between RX1 (some FieldType.int) { frames := 1, cells := 0, slots := 0, locals := 29 } 7) {z2 : Nat} (hz_z2 : jOv X z2) :
    ∀ (jn : Nat) (x5 : Int32) (x2 : Int32) (u : Int32 × Int32) (hf : f_X1_between_L13 x4 x0 x1 jn x5 x2 = some u) (kx : ∀ s : Int32 × Int32, u = s → J X 0 0 ([]) 52 [(5, .int s.1), (4, .int x4), (3, .ref z2), (2, .int s.2), (0, .int x0), (1, .int x1)] []), J X 0 0 ([]) 13 [(5, .int x5), (4, .int x4), (3, .ref z2), (2, .int x2), (0, .int x0), (1, .int x1)] [] := by
  intro jn
  induction jn with
  | zero => intro x5 x2 u hf; cases (show (none : Option (Int32 × Int32)) = some u from hf)
  | succ jn ih =>
    intro x5 x2 u hf kx
    unfold f_X1_between_L13 at hf
    refine j_iload hX dX1_between_13 0 rfl ?_
    refine j_iload hX dX1_between_15 1 rfl ?_
    refine j_icmp_ge hX 52 dX1_between_17 (by decide) hf (fun c17 hf => ?_) (fun c17 hf => ?_)
    · cases hf
      exact kx _ rfl
    · refine j_aload_n hX dX1_between_20 rfl 2 rfl ?_
      refine j_iload hX dX1_between_21 0 rfl ?_
      refine j_overld hX hz_z2 dX1_between_23 hf (fun c23 hf => ?_)
      refine j_istore hX [(6, .int (jOverI (x5).toNatClampNeg)), (5, .int x5), (4, .int x4), (3, .ref z2), (2, .int x2), (0, .int x0), (1, .int x1)] dX1_between_24 (by decide) rfl ?_
      refine j_iload_n hX dX1_between_26 rfl 4 rfl ?_
      refine j_iload hX dX1_between_27 0 rfl ?_
      obtain ⟨u1, h2, hf⟩ := jbind hf
      refine j_callS (st := [.int x2]) hX (k_X1_loudnessAbove (l := l) (D := D) (t := t) (ad := ad)  (jOverI (x5).toNatClampNeg) u1 h2) q498 q499 q9 q500 (n9 := 1) rfl ⟨by decide +kernel, by decide +kernel⟩ dX1_between_29 (Nat.le_of_ble_eq_true rfl) ⟨Nat.le_refl _, Nat.le_refl _⟩ (fun w : va_W => w ++ ([])) (jFr_r ([])) rfl rfl (fun v w hvw => ?_)
      obtain ⟨rfl, rfl⟩ := hvw
      change J X 0 0 ([]) 32 [(6, .int (jOverI (x5).toNatClampNeg)), (5, .int x5), (4, .int x4), (3, .ref z2), (2, .int x2), (0, .int x0), (1, .int x1)] [.int u1, .int x2]
      refine j_iload_n hX dX1_between_32 rfl 5 rfl ?_
      refine j_iload hX dX1_between_33 0 rfl ?_
      refine j_iadd hX dX1_between_35 ?_
      refine j_iload_n hX dX1_between_36 rfl 6 rfl ?_
      refine j_isub hX dX1_between_37 ?_
      obtain ⟨u3, h4, hf⟩ := jbind hf
      refine j_callS (st := [.int u1, .int x2]) hX (k_X1_loudnessAbove (l := l) (D := D) (t := t) (ad := ad)  ((x0 + (jOverI (x5).toNatClampNeg)) - x1) u3 h4) q498 q499 q9 q500 (n9 := 1) rfl ⟨by decide +kernel, by decide +kernel⟩ dX1_between_38 (Nat.le_of_ble_eq_true rfl) ⟨Nat.le_refl _, Nat.le_refl _⟩ (fun w : va_W => w ++ ([])) (jFr_r ([])) rfl rfl (fun v w hvw => ?_)
      obtain ⟨rfl, rfl⟩ := hvw
      change J X 0 0 ([]) 41 [(6, .int (jOverI (x5).toNatClampNeg)), (5, .int x5), (4, .int x4), (3, .ref z2), (2, .int x2), (0, .int x0), (1, .int x1)] [.int u3, .int u1, .int x2]
      refine j_mmin hX q501 dX1_between_41 (Nat.le_of_ble_eq_true rfl) (by decide) ⟨Nat.le_refl _, Nat.le_refl _⟩ ?_
      refine j_iadd hX dX1_between_44 ?_
      refine j_istore_n hX [(2, .int (x2 + (jmin u1 u3))), (6, .int (jOverI (x5).toNatClampNeg)), (5, .int x5), (4, .int x4), (3, .ref z2), (0, .int x0), (1, .int x1)] dX1_between_45 rfl (by decide) rfl ?_
      refine j_iinc hX (x5 + 1) [(5, .int (x5 + 1)), (2, .int (x2 + (jmin u1 u3))), (6, .int (jOverI (x5).toNatClampNeg)), (4, .int x4), (3, .ref z2), (0, .int x0), (1, .int x1)] dX1_between_46 2 rfl rfl (by decide) rfl ?_
      refine j_goto hX 13 dX1_between_49 (by decide) ?_
      refine j_sub hX [(5, .int (x5 + 1)), (4, .int x4), (3, .ref z2), (2, .int (x2 + (jmin u1 u3))), (0, .int x0), (1, .int x1)] [0, 3, 4, 1, 5, 6] rfl ?_
      exact ih (x5 + 1) (x2 + (jmin u1 u3)) u hf kx
set_option maxHeartbeats 4000000 in
set_option maxRecDepth 100000 in
theorem k_X1_between {l : Launch} {D : va_G} {t : Nat → ClassId} {ad : Nat → Nat}  (a0 : Int32) (a1 : Int32) (u : Int32) (hf : f_X1_between a0 a1 = some u) : cm l D (jT t) yX1_between cX1_between 7 (some FieldType.int) { frames := 1, cells := 0, slots := 0, locals := 29 } [.int a0, .int a1] ([]) (fun v w => v = (some (.int u)) ∧ w = []) := by
  refine cm_of RX1 rfl (by decide +kernel) (Nat.le_of_ble_eq_true rfl) (fun X hX hE => ?_)
  change J X 0 0 ([]) 0 [(0, .int a0), (1, .int a1)] []
  unfold f_X1_between at hf
  refine j_iconst hX 0 dX1_between_0 (by decide) ?_
  refine j_istore_n hX [(2, .int 0), (0, .int a0), (1, .int a1)] dX1_between_1 rfl (by decide) rfl ?_
  refine j_over hX q497 dX1_between_2 (fun z2 hz_z2 => ?_)
  refine j_astore_n hX [(3, .ref z2), (2, .int 0), (0, .int a0), (1, .int a1)] dX1_between_5 rfl (by decide) rfl ?_
  refine j_aload_n hX dX1_between_6 rfl 0 rfl ?_
  refine j_overlen hX hz_z2 dX1_between_7 ?_
  refine j_istore hX [(4, .int 4), (3, .ref z2), (2, .int 0), (0, .int a0), (1, .int a1)] dX1_between_8 (by decide) rfl ?_
  refine j_iconst hX 0 dX1_between_10 (by decide) ?_
  refine j_istore hX [(5, .int 0), (4, .int 4), (3, .ref z2), (2, .int 0), (0, .int a0), (1, .int a1)] dX1_between_11 (by decide) rfl ?_
  obtain ⟨s6, h7, hf⟩ := jbind hf
  refine k_X1_between_L13 (ad := ad) 4 a0 a1  hX hz_z2 jFU 0 0 s6 h7 (fun s60 es6 => ?_)
  subst es6
  refine j_iload_n hX dX1_between_52 rfl 3 rfl ?_
  cases hf
  exact j_iret hX hE dX1_between_53 (Nat.le_refl _) (Nat.le_refl _) ⟨rfl, rfl⟩
-- HammerDepot$Chords load (LHammerDepot$Hammers;)V
def f_X1_load_L7 (h_count : Int32) (h_pitches : Nat → Int32) (h_slots : Nat → Int32) : Nat → Int32 → Int32 → (Nat → Int32) → Option (Int32 × Int32 × (Nat → Int32))
  | 0, _, _, _ => none
  | jn + 1, x2, c_count, c_pitches =>
    Option.bind (f_X2_size h_count) (fun u1 =>
      if u1 ≤ x2 then
        some (x2, c_count, c_pitches)
      else
        if 12 ≤ c_count then
          some (x2, c_count, c_pitches)
        else
          Option.bind (f_X2_isAway h_count h_slots x2) (fun u3 =>
            if u3 = 0 then
              Option.bind (f_X2_pitchOf h_count h_pitches x2) (fun u5 =>
                if jin c_count 12 = true then
                  f_X1_load_L7 h_count h_pitches h_slots jn (x2 + 1) (c_count + 1) (upd c_pitches (c_count).toNatClampNeg u5)
                else none)
            else
              f_X1_load_L7 h_count h_pitches h_slots jn (x2 + 1) c_count c_pitches))
def f_X1_load_L74 (c_count : Int32) (c_pitches : Nat → Int32) (x2 : Int32) : Nat → Int32 → (Nat → Int32) → Option (Int32 × (Nat → Int32))
  | 0, _, _ => none
  | jn + 1, x3, c_consonances =>
    if c_count ≤ x3 then
      some (x3, c_consonances)
    else
      if jin x2 12 = true then
        if jin x3 12 = true then
          Option.bind (f_X1_between (c_pitches (x2).toNatClampNeg) (c_pitches (x3).toNatClampNeg)) (fun u10 =>
            if jin ((x2 * 12) + x3) 144 = true then
              f_X1_load_L74 c_count c_pitches x2 jn (x3 + 1) (upd c_consonances ((x2 * 12) + x3).toNatClampNeg u10)
            else none)
        else none
      else none
def f_X1_load_L64 (c_count : Int32) (c_pitches : Nat → Int32) : Nat → Int32 → (Nat → Int32) → Option (Int32 × (Nat → Int32))
  | 0, _, _ => none
  | jn + 1, x2, c_consonances =>
    if c_count ≤ x2 then
      some (x2, c_consonances)
    else
      Option.bind (f_X1_load_L74 c_count c_pitches x2 jFU 0 c_consonances) (fun s13 =>
        f_X1_load_L64 c_count c_pitches jn (x2 + 1) s13.2)
def f_X1_load (c_count : Int32) (c_pitches : Nat → Int32) (c_consonances : Nat → Int32) (h_count : Int32) (h_pitches : Nat → Int32) (h_slots : Nat → Int32) : Option (Int32 × (Nat → Int32) × (Nat → Int32)) :=
  Option.bind (f_X1_load_L7 h_count h_pitches h_slots jFU 0 0 c_pitches) (fun s8 =>
    Option.bind (f_X1_load_L64 s8.2.1 s8.2.2 jFU 0 c_consonances) (fun s16 =>
      some (s8.2.1, s8.2.2, s16.2)))
set_option maxHeartbeats 4000000 in
set_option maxRecDepth 100000 in
theorem k_X1_load_L7 {l : Launch} {D : va_G} {t : Nat → ClassId} {ad : Nat → Nat} {o o2 : Nat} (h_count : Int32) (h_pitches : Nat → Int32) (h_slots : Nat → Int32) (c_size : Int32) (c_consonances : Nat → Int32) (h_wears : Nat → Int32) (h_borrowers : Nat → Int32) (h_dueDays : Nat → Int32) (h_contents : Nat → Int32) {X : jX} (hX : jOK X l D (jT t) cX1_load RX1 none { frames := 2, cells := 0, slots := 0, locals := 55 } 4) :
    ∀ (jn : Nat) (x2 : Int32) (c_count : Int32) (c_pitches : Nat → Int32) (u : Int32 × Int32 × (Nat → Int32)) (hf : f_X1_load_L7 h_count h_pitches h_slots jn x2 c_count c_pitches = some u) (kx : ∀ s : Int32 × Int32 × (Nat → Int32), u = s → J X 0 0 (wC t ad o s.2.1 c_size s.2.2 c_consonances ++ (wH t ad o2 h_count h_pitches h_wears h_slots h_borrowers h_dueDays h_contents)) 62 [(2, .int s.1), (0, .ref (ad o)), (1, .ref (ad o2))] []), J X 0 0 (wC t ad o c_count c_size c_pitches c_consonances ++ (wH t ad o2 h_count h_pitches h_wears h_slots h_borrowers h_dueDays h_contents)) 7 [(2, .int x2), (0, .ref (ad o)), (1, .ref (ad o2))] [] := by
  intro jn
  induction jn with
  | zero => intro x2 c_count c_pitches u hf; cases (show (none : Option (Int32 × Int32 × (Nat → Int32))) = some u from hf)
  | succ jn ih =>
    intro x2 c_count c_pitches u hf kx
    unfold f_X1_load_L7 at hf
    refine j_iload_n hX dX1_load_7 rfl 0 rfl ?_
    refine j_aload_n hX dX1_load_8 rfl 2 rfl ?_
    obtain ⟨u1, h2, hf⟩ := jbind hf
    refine j_callV (st := [.int x2]) hX (k_X2_size (l := l) (D := D) (t := t) (ad := ad) (o := o2) h_count h_pitches h_wears h_slots h_borrowers h_dueDays h_contents  u1 h2) q491 q254 q255 q3 q256 (n9 := 0) rfl ⟨by decide +kernel, by decide +kernel⟩ 0 rfl rfl rfl dX1_load_9 (Nat.le_of_ble_eq_true rfl) ⟨Nat.le_refl _, Nat.le_refl _⟩ (fun w : va_W => (wC t ad o c_count c_size c_pitches c_consonances) ++ w) (jFr_l (wC t ad o c_count c_size c_pitches c_consonances)) rfl rfl (fun v w hvw => ?_)
    obtain ⟨rfl, rfl⟩ := hvw
    change J X 0 0 (wC t ad o c_count c_size c_pitches c_consonances ++ (wH t ad o2 h_count h_pitches h_wears h_slots h_borrowers h_dueDays h_contents)) 12 [(2, .int x2), (0, .ref (ad o)), (1, .ref (ad o2))] [.int u1, .int x2]
    refine j_icmp_ge hX 62 dX1_load_12 (by decide) hf (fun c12 hf => ?_) (fun c12 hf => ?_)
    · cases hf
      exact kx _ rfl
    · refine j_aload_n hX dX1_load_15 rfl 1 rfl ?_
      refine j_get hX dX1_load_16 inX1 0 q140 0 rfl rfl (by decide) rfl rfl ?_
      refine j_bipush hX 12 dX1_load_19 (by decide) ?_
      refine j_icmp_ge hX 62 dX1_load_21 (by decide) hf (fun c21 hf => ?_) (fun c21 hf => ?_)
      · cases hf
        exact kx _ rfl
      · refine j_aload_n hX dX1_load_24 rfl 2 rfl ?_
        refine j_iload_n hX dX1_load_25 rfl 0 rfl ?_
        obtain ⟨u3, h4, hf⟩ := jbind hf
        refine j_callV (st := []) hX (k_X2_isAway (l := l) (D := D) (t := t) (ad := ad) (o := o2) h_count h_pitches h_wears h_slots h_borrowers h_dueDays h_contents x2 u3 h4) q492 q287 q288 q3 q289 (n9 := 1) rfl ⟨by decide +kernel, by decide +kernel⟩ 0 rfl rfl rfl dX1_load_26 (Nat.le_of_ble_eq_true rfl) ⟨Nat.le_refl _, Nat.le_refl _⟩ (fun w : va_W => (wC t ad o c_count c_size c_pitches c_consonances) ++ w) (jFr_l (wC t ad o c_count c_size c_pitches c_consonances)) rfl rfl (fun v w hvw => ?_)
        obtain ⟨rfl, rfl⟩ := hvw
        change J X 0 0 (wC t ad o c_count c_size c_pitches c_consonances ++ (wH t ad o2 h_count h_pitches h_wears h_slots h_borrowers h_dueDays h_contents)) 29 [(2, .int x2), (0, .ref (ad o)), (1, .ref (ad o2))] [.int u3]
        refine j_if_ne hX 56 dX1_load_29 (by decide) hf (fun c29 hf => ?_) (fun c29 hf => ?_)
        · refine j_iinc hX (x2 + 1) [(2, .int (x2 + 1)), (0, .ref (ad o)), (1, .ref (ad o2))] dX1_load_56 0 rfl rfl (by decide) rfl ?_
          refine j_goto hX 7 dX1_load_59 (by decide) ?_
          exact ih (x2 + 1) c_count c_pitches u hf kx
        · refine j_aload_n hX dX1_load_32 rfl 1 rfl ?_
          refine j_get hX dX1_load_33 inX1 2 q142 0 rfl rfl (by decide) rfl rfl ?_
          refine j_aload_n hX dX1_load_36 rfl 1 rfl ?_
          refine j_get hX dX1_load_37 inX1 0 q140 0 rfl rfl (by decide) rfl rfl ?_
          refine j_aload_n hX dX1_load_40 rfl 2 rfl ?_
          refine j_iload_n hX dX1_load_41 rfl 0 rfl ?_
          obtain ⟨u5, h6, hf⟩ := jbind hf
          refine j_callV (st := [.int c_count, .ref (ad (o + 1))]) hX (k_X2_pitchOf (l := l) (D := D) (t := t) (ad := ad) (o := o2) h_count h_pitches h_wears h_slots h_borrowers h_dueDays h_contents x2 u5 h6) q493 q267 q268 q3 q269 (n9 := 1) rfl ⟨by decide +kernel, by decide +kernel⟩ 0 rfl rfl rfl dX1_load_42 (Nat.le_of_ble_eq_true rfl) ⟨Nat.le_refl _, Nat.le_refl _⟩ (fun w : va_W => (wC t ad o c_count c_size c_pitches c_consonances) ++ w) (jFr_l (wC t ad o c_count c_size c_pitches c_consonances)) rfl rfl (fun v w hvw => ?_)
          obtain ⟨rfl, rfl⟩ := hvw
          change J X 0 0 (wC t ad o c_count c_size c_pitches c_consonances ++ (wH t ad o2 h_count h_pitches h_wears h_slots h_borrowers h_dueDays h_contents)) 45 [(2, .int x2), (0, .ref (ad o)), (1, .ref (ad o2))] [.int u5, .int c_count, .ref (ad (o + 1))]
          refine j_iast hX (wC t ad o c_count c_size (upd c_pitches (c_count).toNatClampNeg u5) c_consonances ++ (wH t ad o2 h_count h_pitches h_wears h_slots h_borrowers h_dueDays h_contents)) dX1_load_45 1 0 rfl rfl rfl hf (fun c45 hf => ?_)
          refine j_aload_n hX dX1_load_46 rfl 1 rfl ?_
          refine j_dup hX dX1_load_47 rfl ?_
          refine j_get hX dX1_load_48 inX1 0 q140 0 rfl rfl (by decide) rfl rfl ?_
          refine j_iconst hX 1 dX1_load_51 (by decide) ?_
          refine j_iadd hX dX1_load_52 ?_
          refine j_put hX (wC t ad o (c_count + 1) c_size (upd c_pitches (c_count).toNatClampNeg u5) c_consonances ++ (wH t ad o2 h_count h_pitches h_wears h_slots h_borrowers h_dueDays h_contents)) tyX1 dX1_load_53 inX1 tyX1_ok nmX1 0 q140 0 rfl rfl (by decide) rfl rfl rfl rfl rfl (Nat.le_of_ble_eq_true rfl) rfl ?_
          refine j_iinc hX (x2 + 1) [(2, .int (x2 + 1)), (0, .ref (ad o)), (1, .ref (ad o2))] dX1_load_56 0 rfl rfl (by decide) rfl ?_
          refine j_goto hX 7 dX1_load_59 (by decide) ?_
          exact ih (x2 + 1) (c_count + 1) (upd c_pitches (c_count).toNatClampNeg u5) u hf kx
set_option maxHeartbeats 4000000 in
set_option maxRecDepth 100000 in
theorem k_X1_load_L74 {l : Launch} {D : va_G} {t : Nat → ClassId} {ad : Nat → Nat} {o o2 : Nat} (c_count : Int32) (c_pitches : Nat → Int32) (x2 : Int32) (c_size : Int32) (h_count : Int32) (h_pitches : Nat → Int32) (h_wears : Nat → Int32) (h_slots : Nat → Int32) (h_borrowers : Nat → Int32) (h_dueDays : Nat → Int32) (h_contents : Nat → Int32) {X : jX} (hX : jOK X l D (jT t) cX1_load RX1 none { frames := 2, cells := 0, slots := 0, locals := 55 } 4) :
    ∀ (jn : Nat) (x3 : Int32) (c_consonances : Nat → Int32) (u : Int32 × (Nat → Int32)) (hf : f_X1_load_L74 c_count c_pitches x2 jn x3 c_consonances = some u) (kx : ∀ s : Int32 × (Nat → Int32), u = s → J X 0 0 (wC t ad o c_count c_size c_pitches s.2 ++ (wH t ad o2 h_count h_pitches h_wears h_slots h_borrowers h_dueDays h_contents)) 114 [(3, .int s.1), (2, .int x2), (0, .ref (ad o)), (1, .ref (ad o2))] []), J X 0 0 (wC t ad o c_count c_size c_pitches c_consonances ++ (wH t ad o2 h_count h_pitches h_wears h_slots h_borrowers h_dueDays h_contents)) 74 [(3, .int x3), (2, .int x2), (0, .ref (ad o)), (1, .ref (ad o2))] [] := by
  intro jn
  induction jn with
  | zero => intro x3 c_consonances u hf; cases (show (none : Option (Int32 × (Nat → Int32))) = some u from hf)
  | succ jn ih =>
    intro x3 c_consonances u hf kx
    unfold f_X1_load_L74 at hf
    refine j_iload_n hX dX1_load_74 rfl 0 rfl ?_
    refine j_aload_n hX dX1_load_75 rfl 2 rfl ?_
    refine j_get hX dX1_load_76 inX1 0 q140 0 rfl rfl (by decide) rfl rfl ?_
    refine j_icmp_ge hX 114 dX1_load_79 (by decide) hf (fun c79 hf => ?_) (fun c79 hf => ?_)
    · cases hf
      exact kx _ rfl
    · refine j_aload_n hX dX1_load_82 rfl 2 rfl ?_
      refine j_get hX dX1_load_83 inX1 3 q143 0 rfl rfl (by decide) rfl rfl ?_
      refine j_iload_n hX dX1_load_86 rfl 1 rfl ?_
      refine j_bipush hX 12 dX1_load_87 (by decide) ?_
      refine j_imul hX dX1_load_89 ?_
      refine j_iload_n hX dX1_load_90 rfl 0 rfl ?_
      refine j_iadd hX dX1_load_91 ?_
      refine j_aload_n hX dX1_load_92 rfl 2 rfl ?_
      refine j_get hX dX1_load_93 inX1 2 q142 0 rfl rfl (by decide) rfl rfl ?_
      refine j_iload_n hX dX1_load_96 rfl 1 rfl ?_
      refine j_iald hX dX1_load_97 1 0 rfl rfl hf (fun c97 hf => ?_)
      refine j_aload_n hX dX1_load_98 rfl 2 rfl ?_
      refine j_get hX dX1_load_99 inX1 2 q142 0 rfl rfl (by decide) rfl rfl ?_
      refine j_iload_n hX dX1_load_102 rfl 0 rfl ?_
      refine j_iald hX dX1_load_103 1 0 rfl rfl hf (fun c103 hf => ?_)
      obtain ⟨u10, h11, hf⟩ := jbind hf
      refine j_callS (st := [.int ((x2 * 12) + x3), .ref (ad (o + 2))]) hX (k_X1_between (l := l) (D := D) (t := t) (ad := ad)  (c_pitches (x2).toNatClampNeg) (c_pitches (x3).toNatClampNeg) u10 h11) q494 q495 q9 q496 (n9 := 2) rfl ⟨by decide +kernel, by decide +kernel⟩ dX1_load_104 (Nat.le_of_ble_eq_true rfl) ⟨Nat.le_refl _, Nat.le_refl _⟩ (fun w : va_W => w ++ (wC t ad o c_count c_size c_pitches c_consonances ++ (wH t ad o2 h_count h_pitches h_wears h_slots h_borrowers h_dueDays h_contents))) (jFr_r (wC t ad o c_count c_size c_pitches c_consonances ++ (wH t ad o2 h_count h_pitches h_wears h_slots h_borrowers h_dueDays h_contents))) rfl rfl (fun v w hvw => ?_)
      obtain ⟨rfl, rfl⟩ := hvw
      change J X 0 0 (wC t ad o c_count c_size c_pitches c_consonances ++ (wH t ad o2 h_count h_pitches h_wears h_slots h_borrowers h_dueDays h_contents)) 107 [(3, .int x3), (2, .int x2), (0, .ref (ad o)), (1, .ref (ad o2))] [.int u10, .int ((x2 * 12) + x3), .ref (ad (o + 2))]
      refine j_iast hX (wC t ad o c_count c_size c_pitches (upd c_consonances ((x2 * 12) + x3).toNatClampNeg u10) ++ (wH t ad o2 h_count h_pitches h_wears h_slots h_borrowers h_dueDays h_contents)) dX1_load_107 2 0 rfl rfl rfl hf (fun c107 hf => ?_)
      refine j_iinc hX (x3 + 1) [(3, .int (x3 + 1)), (2, .int x2), (0, .ref (ad o)), (1, .ref (ad o2))] dX1_load_108 0 rfl rfl (by decide) rfl ?_
      refine j_goto hX 74 dX1_load_111 (by decide) ?_
      exact ih (x3 + 1) (upd c_consonances ((x2 * 12) + x3).toNatClampNeg u10) u hf kx
set_option maxHeartbeats 4000000 in
set_option maxRecDepth 100000 in
theorem k_X1_load_L64 {l : Launch} {D : va_G} {t : Nat → ClassId} {ad : Nat → Nat} {o o2 : Nat} (c_count : Int32) (c_pitches : Nat → Int32) (c_size : Int32) (h_count : Int32) (h_pitches : Nat → Int32) (h_wears : Nat → Int32) (h_slots : Nat → Int32) (h_borrowers : Nat → Int32) (h_dueDays : Nat → Int32) (h_contents : Nat → Int32) {X : jX} (hX : jOK X l D (jT t) cX1_load RX1 none { frames := 2, cells := 0, slots := 0, locals := 55 } 4) :
    ∀ (jn : Nat) (x2 : Int32) (c_consonances : Nat → Int32) (u : Int32 × (Nat → Int32)) (hf : f_X1_load_L64 c_count c_pitches jn x2 c_consonances = some u) (kx : ∀ s : Int32 × (Nat → Int32), u = s → J X 0 0 (wC t ad o c_count c_size c_pitches s.2 ++ (wH t ad o2 h_count h_pitches h_wears h_slots h_borrowers h_dueDays h_contents)) 120 [(2, .int s.1), (0, .ref (ad o)), (1, .ref (ad o2))] []), J X 0 0 (wC t ad o c_count c_size c_pitches c_consonances ++ (wH t ad o2 h_count h_pitches h_wears h_slots h_borrowers h_dueDays h_contents)) 64 [(2, .int x2), (0, .ref (ad o)), (1, .ref (ad o2))] [] := by
  intro jn
  induction jn with
  | zero => intro x2 c_consonances u hf; cases (show (none : Option (Int32 × (Nat → Int32))) = some u from hf)
  | succ jn ih =>
    intro x2 c_consonances u hf kx
    unfold f_X1_load_L64 at hf
    refine j_iload_n hX dX1_load_64 rfl 0 rfl ?_
    refine j_aload_n hX dX1_load_65 rfl 1 rfl ?_
    refine j_get hX dX1_load_66 inX1 0 q140 0 rfl rfl (by decide) rfl rfl ?_
    refine j_icmp_ge hX 120 dX1_load_69 (by decide) hf (fun c69 hf => ?_) (fun c69 hf => ?_)
    · cases hf
      exact kx _ rfl
    · refine j_iconst hX 0 dX1_load_72 (by decide) ?_
      refine j_istore_n hX [(3, .int 0), (2, .int x2), (0, .ref (ad o)), (1, .ref (ad o2))] dX1_load_73 rfl (by decide) rfl ?_
      obtain ⟨s13, h14, hf⟩ := jbind hf
      refine k_X1_load_L74 (ad := ad) c_count c_pitches x2 c_size h_count h_pitches h_wears h_slots h_borrowers h_dueDays h_contents hX jFU 0 c_consonances s13 h14 (fun s130 es13 => ?_)
      subst es13
      refine j_iinc hX (x2 + 1) [(2, .int (x2 + 1)), (3, .int s13.1), (0, .ref (ad o)), (1, .ref (ad o2))] dX1_load_114 1 rfl rfl (by decide) rfl ?_
      refine j_goto hX 64 dX1_load_117 (by decide) ?_
      refine j_sub hX [(2, .int (x2 + 1)), (0, .ref (ad o)), (1, .ref (ad o2))] [0, 2, 3] rfl ?_
      exact ih (x2 + 1) s13.2 u hf kx
set_option maxHeartbeats 4000000 in
set_option maxRecDepth 100000 in
theorem k_X1_load {l : Launch} {D : va_G} {t : Nat → ClassId} {ad : Nat → Nat} {o o2 : Nat} (c_count : Int32) (c_size : Int32) (c_pitches : Nat → Int32) (c_consonances : Nat → Int32) (h_count : Int32) (h_pitches : Nat → Int32) (h_wears : Nat → Int32) (h_slots : Nat → Int32) (h_borrowers : Nat → Int32) (h_dueDays : Nat → Int32) (h_contents : Nat → Int32)  (u : Int32 × (Nat → Int32) × (Nat → Int32)) (hf : f_X1_load c_count c_pitches c_consonances h_count h_pitches h_slots = some u) : cm l D (jT t) yX1_load cX1_load 4 none { frames := 2, cells := 0, slots := 0, locals := 55 } [.ref (ad o), .ref (ad o2)] (wC t ad o c_count c_size c_pitches c_consonances ++ (wH t ad o2 h_count h_pitches h_wears h_slots h_borrowers h_dueDays h_contents)) (fun v w => v = none ∧ w = wC t ad o u.1 c_size u.2.1 u.2.2 ++ (wH t ad o2 h_count h_pitches h_wears h_slots h_borrowers h_dueDays h_contents)) := by
  refine cm_of RX1 rfl (by decide +kernel) (Nat.le_of_ble_eq_true rfl) (fun X hX hE => ?_)
  change J X 0 0 (wC t ad o c_count c_size c_pitches c_consonances ++ (wH t ad o2 h_count h_pitches h_wears h_slots h_borrowers h_dueDays h_contents)) 0 [(0, .ref (ad o)), (1, .ref (ad o2))] []
  unfold f_X1_load at hf
  refine j_aload_n hX dX1_load_0 rfl 0 rfl ?_
  refine j_iconst hX 0 dX1_load_1 (by decide) ?_
  refine j_put hX (wC t ad o 0 c_size c_pitches c_consonances ++ (wH t ad o2 h_count h_pitches h_wears h_slots h_borrowers h_dueDays h_contents)) tyX1 dX1_load_2 inX1 tyX1_ok nmX1 0 q140 0 rfl rfl (by decide) rfl rfl rfl rfl rfl (Nat.le_of_ble_eq_true rfl) rfl ?_
  refine j_iconst hX 0 dX1_load_5 (by decide) ?_
  refine j_istore_n hX [(2, .int 0), (0, .ref (ad o)), (1, .ref (ad o2))] dX1_load_6 rfl (by decide) rfl ?_
  obtain ⟨s8, h9, hf⟩ := jbind hf
  refine k_X1_load_L7 (ad := ad) h_count h_pitches h_slots c_size c_consonances h_wears h_borrowers h_dueDays h_contents hX jFU 0 0 c_pitches s8 h9 (fun s80 es8 => ?_)
  subst es8
  refine j_iconst hX 0 dX1_load_62 (by decide) ?_
  refine j_istore_n hX [(2, .int 0), (0, .ref (ad o)), (1, .ref (ad o2))] dX1_load_63 rfl (by decide) rfl ?_
  obtain ⟨s16, h17, hf⟩ := jbind hf
  refine k_X1_load_L64 (ad := ad) s8.2.1 s8.2.2 c_size h_count h_pitches h_wears h_slots h_borrowers h_dueDays h_contents hX jFU 0 c_consonances s16 h17 (fun s160 es16 => ?_)
  subst es16
  cases hf
  exact j_vret hX hE dX1_load_120 (Nat.le_refl _) (Nat.le_refl _) ⟨rfl, rfl⟩
-- HammerDepot$Chords allow (I)Z
def f_X1_allow (c_count : Int32) (a0 : Int32) : Option (Int32) :=
  if c_count < a0 then
    some 0
  else
    some 1
set_option maxHeartbeats 4000000 in
set_option maxRecDepth 100000 in
theorem k_X1_allow {l : Launch} {D : va_G} {t : Nat → ClassId} {ad : Nat → Nat} {o : Nat} (c_count : Int32) (c_size : Int32) (c_pitches : Nat → Int32) (c_consonances : Nat → Int32) (a0 : Int32) (u : Int32) (hf : f_X1_allow c_count a0 = some u) : cm l D (jT t) yX1_allow cX1_allow 2 (some FieldType.boolean) { frames := 0, cells := 0, slots := 0, locals := 0 } [.ref (ad o), .int a0] (wC t ad o c_count c_size c_pitches c_consonances) (fun v w => v = (some (.int u)) ∧ w = wC t ad o c_count c_size c_pitches c_consonances) := by
  refine cm_of RX1 rfl (by decide +kernel) (Nat.le_of_ble_eq_true rfl) (fun X hX hE => ?_)
  change J X 0 0 (wC t ad o c_count c_size c_pitches c_consonances) 0 [(0, .ref (ad o)), (1, .int a0)] []
  unfold f_X1_allow at hf
  refine j_iload_n hX dX1_allow_0 rfl 1 rfl ?_
  refine j_aload_n hX dX1_allow_1 rfl 0 rfl ?_
  refine j_get hX dX1_allow_2 inX1 0 q140 0 rfl rfl (by decide) rfl rfl ?_
  refine j_icmp_gt hX 12 dX1_allow_5 (by decide) hf (fun c5 hf => ?_) (fun c5 hf => ?_)
  · refine j_iconst hX 0 dX1_allow_12 (by decide) ?_
    cases hf
    exact j_zret hX hE rfl dX1_allow_13 (Nat.le_refl _) (Nat.le_refl _) ⟨rfl, rfl⟩
  · refine j_iconst hX 1 dX1_allow_8 (by decide) ?_
    refine j_goto hX 13 dX1_allow_9 (by decide) ?_
    cases hf
    exact j_zret hX hE rfl dX1_allow_13 (Nat.le_refl _) (Nat.le_refl _) ⟨rfl, rfl⟩
-- HammerDepot$Chords pair (II)I
def f_X1_pair (c_consonances : Nat → Int32) (a0 : Int32) (a1 : Int32) : Option (Int32) :=
  if a0 < 0 then
    some 0
  else
    if 12 ≤ a0 then
      some 0
    else
      if a1 < 0 then
        some 0
      else
        if 12 ≤ a1 then
          some 0
        else
          if jin ((a0 * 12) + a1) 144 = true then
            some (c_consonances ((a0 * 12) + a1).toNatClampNeg)
          else none
set_option maxHeartbeats 4000000 in
set_option maxRecDepth 100000 in
theorem k_X1_pair {l : Launch} {D : va_G} {t : Nat → ClassId} {ad : Nat → Nat} {o : Nat} (c_count : Int32) (c_size : Int32) (c_pitches : Nat → Int32) (c_consonances : Nat → Int32) (a0 : Int32) (a1 : Int32) (u : Int32) (hf : f_X1_pair c_consonances a0 a1 = some u) : cm l D (jT t) yX1_pair cX1_pair 4 (some FieldType.int) { frames := 0, cells := 0, slots := 0, locals := 0 } [.ref (ad o), .int a0, .int a1] (wC t ad o c_count c_size c_pitches c_consonances) (fun v w => v = (some (.int u)) ∧ w = wC t ad o c_count c_size c_pitches c_consonances) := by
  refine cm_of RX1 rfl (by decide +kernel) (Nat.le_of_ble_eq_true rfl) (fun X hX hE => ?_)
  change J X 0 0 (wC t ad o c_count c_size c_pitches c_consonances) 0 [(0, .ref (ad o)), (1, .int a0), (2, .int a1)] []
  unfold f_X1_pair at hf
  refine j_iload_n hX dX1_pair_0 rfl 1 rfl ?_
  refine j_if_lt hX 24 dX1_pair_1 (by decide) hf (fun c1 hf => ?_) (fun c1 hf => ?_)
  · refine j_iconst hX 0 dX1_pair_24 (by decide) ?_
    refine j_istore_n hX [(3, .int 0), (0, .ref (ad o)), (1, .int a0), (2, .int a1)] dX1_pair_25 rfl (by decide) rfl ?_
    refine j_iload_n hX dX1_pair_26 rfl 0 rfl ?_
    refine j_if_eq (α := Unit) (F := none) (G := none) (o := none) hX 44 dX1_pair_27 (by decide) (ite_self none) (fun c27 _ => ?_) (fun c27 _ => absurd c27 (by decide))
    refine j_iconst hX 0 dX1_pair_44 (by decide) ?_
    cases hf
    exact j_iret hX hE dX1_pair_45 (Nat.le_refl _) (Nat.le_refl _) ⟨rfl, rfl⟩
  · refine j_iload_n hX dX1_pair_4 rfl 1 rfl ?_
    refine j_bipush hX 12 dX1_pair_5 (by decide) ?_
    refine j_icmp_ge hX 24 dX1_pair_7 (by decide) hf (fun c7 hf => ?_) (fun c7 hf => ?_)
    · refine j_iconst hX 0 dX1_pair_24 (by decide) ?_
      refine j_istore_n hX [(3, .int 0), (0, .ref (ad o)), (1, .int a0), (2, .int a1)] dX1_pair_25 rfl (by decide) rfl ?_
      refine j_iload_n hX dX1_pair_26 rfl 0 rfl ?_
      refine j_if_eq (α := Unit) (F := none) (G := none) (o := none) hX 44 dX1_pair_27 (by decide) (ite_self none) (fun c27 _ => ?_) (fun c27 _ => absurd c27 (by decide))
      refine j_iconst hX 0 dX1_pair_44 (by decide) ?_
      cases hf
      exact j_iret hX hE dX1_pair_45 (Nat.le_refl _) (Nat.le_refl _) ⟨rfl, rfl⟩
    · refine j_iload_n hX dX1_pair_10 rfl 2 rfl ?_
      refine j_if_lt hX 24 dX1_pair_11 (by decide) hf (fun c11 hf => ?_) (fun c11 hf => ?_)
      · refine j_iconst hX 0 dX1_pair_24 (by decide) ?_
        refine j_istore_n hX [(3, .int 0), (0, .ref (ad o)), (1, .int a0), (2, .int a1)] dX1_pair_25 rfl (by decide) rfl ?_
        refine j_iload_n hX dX1_pair_26 rfl 0 rfl ?_
        refine j_if_eq (α := Unit) (F := none) (G := none) (o := none) hX 44 dX1_pair_27 (by decide) (ite_self none) (fun c27 _ => ?_) (fun c27 _ => absurd c27 (by decide))
        refine j_iconst hX 0 dX1_pair_44 (by decide) ?_
        cases hf
        exact j_iret hX hE dX1_pair_45 (Nat.le_refl _) (Nat.le_refl _) ⟨rfl, rfl⟩
      · refine j_iload_n hX dX1_pair_14 rfl 2 rfl ?_
        refine j_bipush hX 12 dX1_pair_15 (by decide) ?_
        refine j_icmp_ge hX 24 dX1_pair_17 (by decide) hf (fun c17 hf => ?_) (fun c17 hf => ?_)
        · refine j_iconst hX 0 dX1_pair_24 (by decide) ?_
          refine j_istore_n hX [(3, .int 0), (0, .ref (ad o)), (1, .int a0), (2, .int a1)] dX1_pair_25 rfl (by decide) rfl ?_
          refine j_iload_n hX dX1_pair_26 rfl 0 rfl ?_
          refine j_if_eq (α := Unit) (F := none) (G := none) (o := none) hX 44 dX1_pair_27 (by decide) (ite_self none) (fun c27 _ => ?_) (fun c27 _ => absurd c27 (by decide))
          refine j_iconst hX 0 dX1_pair_44 (by decide) ?_
          cases hf
          exact j_iret hX hE dX1_pair_45 (Nat.le_refl _) (Nat.le_refl _) ⟨rfl, rfl⟩
        · refine j_iconst hX 1 dX1_pair_20 (by decide) ?_
          refine j_goto hX 25 dX1_pair_21 (by decide) ?_
          refine j_istore_n hX [(3, .int 1), (0, .ref (ad o)), (1, .int a0), (2, .int a1)] dX1_pair_25 rfl (by decide) rfl ?_
          refine j_iload_n hX dX1_pair_26 rfl 0 rfl ?_
          refine j_if_eq (α := Unit) (F := none) (G := none) (o := none) hX 44 dX1_pair_27 (by decide) (ite_self none) (fun c27 _ => absurd c27 (by decide)) (fun c27 _ => ?_)
          refine j_aload_n hX dX1_pair_30 rfl 1 rfl ?_
          refine j_get hX dX1_pair_31 inX1 3 q143 0 rfl rfl (by decide) rfl rfl ?_
          refine j_iload_n hX dX1_pair_34 rfl 2 rfl ?_
          refine j_bipush hX 12 dX1_pair_35 (by decide) ?_
          refine j_imul hX dX1_pair_37 ?_
          refine j_iload_n hX dX1_pair_38 rfl 3 rfl ?_
          refine j_iadd hX dX1_pair_39 ?_
          refine j_iald hX dX1_pair_40 2 0 rfl rfl hf (fun c40 hf => ?_)
          refine j_goto hX 45 dX1_pair_41 (by decide) ?_
          cases hf
          exact j_iret hX hE dX1_pair_45 (Nat.le_refl _) (Nat.le_refl _) ⟨rfl, rfl⟩
-- HammerDepot$Chords withChosen (II)I
def f_X1_withChosen_L5 (c_count : Int32) (c_consonances : Nat → Int32) (x1 : Int32) (x2 : Int32) : Nat → Int32 → Int32 → Option (Int32 × Int32)
  | 0, _, _ => none
  | jn + 1, x4, x3 =>
    if c_count ≤ x4 then
      some (x4, x3)
    else
      if (x2 &&& ((1 : Int32) <<< (x4 &&& 31))) = 0 then
        f_X1_withChosen_L5 c_count c_consonances x1 x2 jn (x4 + 1) x3
      else
        Option.bind (f_X1_pair c_consonances x1 x4) (fun u1 =>
          f_X1_withChosen_L5 c_count c_consonances x1 x2 jn (x4 + 1) (x3 + u1))
def f_X1_withChosen (c_count : Int32) (c_consonances : Nat → Int32) (a0 : Int32) (a1 : Int32) : Option (Int32) :=
  Option.bind (f_X1_withChosen_L5 c_count c_consonances a0 a1 jFU 0 0) (fun s4 =>
    some s4.2)
set_option maxHeartbeats 4000000 in
set_option maxRecDepth 100000 in
theorem k_X1_withChosen_L5 {l : Launch} {D : va_G} {t : Nat → ClassId} {ad : Nat → Nat} {o : Nat} (c_count : Int32) (c_consonances : Nat → Int32) (x1 : Int32) (x2 : Int32) (c_size : Int32) (c_pitches : Nat → Int32) {X : jX} (hX : jOK X l D (jT t) cX1_withChosen RX1 (some FieldType.int) { frames := 1, cells := 0, slots := 0, locals := 23 } 5) :
    ∀ (jn : Nat) (x4 : Int32) (x3 : Int32) (u : Int32 × Int32) (hf : f_X1_withChosen_L5 c_count c_consonances x1 x2 jn x4 x3 = some u) (kx : ∀ s : Int32 × Int32, u = s → J X 0 0 (wC t ad o c_count c_size c_pitches c_consonances) 39 [(4, .int s.1), (3, .int s.2), (0, .ref (ad o)), (1, .int x1), (2, .int x2)] []), J X 0 0 (wC t ad o c_count c_size c_pitches c_consonances) 5 [(4, .int x4), (3, .int x3), (0, .ref (ad o)), (1, .int x1), (2, .int x2)] [] := by
  intro jn
  induction jn with
  | zero => intro x4 x3 u hf; cases (show (none : Option (Int32 × Int32)) = some u from hf)
  | succ jn ih =>
    intro x4 x3 u hf kx
    unfold f_X1_withChosen_L5 at hf
    refine j_iload hX dX1_withChosen_5 0 rfl ?_
    refine j_aload_n hX dX1_withChosen_7 rfl 2 rfl ?_
    refine j_get hX dX1_withChosen_8 inX1 0 q140 0 rfl rfl (by decide) rfl rfl ?_
    refine j_icmp_ge hX 39 dX1_withChosen_11 (by decide) hf (fun c11 hf => ?_) (fun c11 hf => ?_)
    · cases hf
      exact kx _ rfl
    · refine j_iload_n hX dX1_withChosen_14 rfl 4 rfl ?_
      refine j_iconst hX 1 dX1_withChosen_15 (by decide) ?_
      refine j_iload hX dX1_withChosen_16 0 rfl ?_
      refine j_ishl hX dX1_withChosen_18 ?_
      refine j_iand hX dX1_withChosen_19 ?_
      refine j_if_eq hX 33 dX1_withChosen_20 (by decide) hf (fun c20 hf => ?_) (fun c20 hf => ?_)
      · refine j_iinc hX (x4 + 1) [(4, .int (x4 + 1)), (3, .int x3), (0, .ref (ad o)), (1, .int x1), (2, .int x2)] dX1_withChosen_33 0 rfl rfl (by decide) rfl ?_
        refine j_goto hX 5 dX1_withChosen_36 (by decide) ?_
        exact ih (x4 + 1) x3 u hf kx
      · refine j_iload_n hX dX1_withChosen_23 rfl 1 rfl ?_
        refine j_aload_n hX dX1_withChosen_24 rfl 2 rfl ?_
        refine j_iload_n hX dX1_withChosen_25 rfl 3 rfl ?_
        refine j_iload hX dX1_withChosen_26 0 rfl ?_
        obtain ⟨u1, h2, hf⟩ := jbind hf
        refine j_callV (st := [.int x3]) hX (k_X1_pair (l := l) (D := D) (t := t) (ad := ad) (o := o) c_count c_size c_pitches c_consonances x1 x4 u1 h2) q520 q521 q1927 q9 q522 (n9 := 2) rfl ⟨by decide +kernel, by decide +kernel⟩ 0 rfl rfl rfl dX1_withChosen_28 (Nat.le_of_ble_eq_true rfl) ⟨Nat.le_refl _, Nat.le_refl _⟩ (fun w : va_W => w) jFr_id rfl rfl (fun v w hvw => ?_)
        obtain ⟨rfl, rfl⟩ := hvw
        change J X 0 0 (wC t ad o c_count c_size c_pitches c_consonances) 31 [(4, .int x4), (3, .int x3), (0, .ref (ad o)), (1, .int x1), (2, .int x2)] [.int u1, .int x3]
        refine j_iadd hX dX1_withChosen_31 ?_
        refine j_istore_n hX [(3, .int (x3 + u1)), (4, .int x4), (0, .ref (ad o)), (1, .int x1), (2, .int x2)] dX1_withChosen_32 rfl (by decide) rfl ?_
        refine j_iinc hX (x4 + 1) [(4, .int (x4 + 1)), (3, .int (x3 + u1)), (0, .ref (ad o)), (1, .int x1), (2, .int x2)] dX1_withChosen_33 1 rfl rfl (by decide) rfl ?_
        refine j_goto hX 5 dX1_withChosen_36 (by decide) ?_
        exact ih (x4 + 1) (x3 + u1) u hf kx
set_option maxHeartbeats 4000000 in
set_option maxRecDepth 100000 in
theorem k_X1_withChosen {l : Launch} {D : va_G} {t : Nat → ClassId} {ad : Nat → Nat} {o : Nat} (c_count : Int32) (c_size : Int32) (c_pitches : Nat → Int32) (c_consonances : Nat → Int32) (a0 : Int32) (a1 : Int32) (u : Int32) (hf : f_X1_withChosen c_count c_consonances a0 a1 = some u) : cm l D (jT t) yX1_withChosen cX1_withChosen 5 (some FieldType.int) { frames := 1, cells := 0, slots := 0, locals := 23 } [.ref (ad o), .int a0, .int a1] (wC t ad o c_count c_size c_pitches c_consonances) (fun v w => v = (some (.int u)) ∧ w = wC t ad o c_count c_size c_pitches c_consonances) := by
  refine cm_of RX1 rfl (by decide +kernel) (Nat.le_of_ble_eq_true rfl) (fun X hX hE => ?_)
  change J X 0 0 (wC t ad o c_count c_size c_pitches c_consonances) 0 [(0, .ref (ad o)), (1, .int a0), (2, .int a1)] []
  unfold f_X1_withChosen at hf
  refine j_iconst hX 0 dX1_withChosen_0 (by decide) ?_
  refine j_istore_n hX [(3, .int 0), (0, .ref (ad o)), (1, .int a0), (2, .int a1)] dX1_withChosen_1 rfl (by decide) rfl ?_
  refine j_iconst hX 0 dX1_withChosen_2 (by decide) ?_
  refine j_istore hX [(4, .int 0), (3, .int 0), (0, .ref (ad o)), (1, .int a0), (2, .int a1)] dX1_withChosen_3 (by decide) rfl ?_
  obtain ⟨s4, h5, hf⟩ := jbind hf
  refine k_X1_withChosen_L5 (ad := ad) c_count c_consonances a0 a1 c_size c_pitches hX jFU 0 0 s4 h5 (fun s40 es4 => ?_)
  subst es4
  refine j_iload_n hX dX1_withChosen_39 rfl 1 rfl ?_
  cases hf
  exact j_iret hX hE dX1_withChosen_40 (Nat.le_refl _) (Nat.le_refl _) ⟨rfl, rfl⟩
-- HammerDepot$Chords greatestStillToCome (I)I
def f_X1_greatestStillToCome (c_size : Int32) (a0 : Int32) : Option (Int32) :=
  some ((((c_size * (c_size - 1)) - ((c_size - a0) * ((c_size - a0) - 1))) / 2) * 15)
set_option maxHeartbeats 4000000 in
set_option maxRecDepth 100000 in
theorem k_X1_greatestStillToCome {l : Launch} {D : va_G} {t : Nat → ClassId} {ad : Nat → Nat} {o : Nat} (c_count : Int32) (c_size : Int32) (c_pitches : Nat → Int32) (c_consonances : Nat → Int32) (a0 : Int32) (u : Int32) (hf : f_X1_greatestStillToCome c_size a0 = some u) : cm l D (jT t) yX1_greatestStillToCome cX1_greatestStillToCome 3 (some FieldType.int) { frames := 0, cells := 0, slots := 0, locals := 0 } [.ref (ad o), .int a0] (wC t ad o c_count c_size c_pitches c_consonances) (fun v w => v = (some (.int u)) ∧ w = wC t ad o c_count c_size c_pitches c_consonances) := by
  refine cm_of RX1 rfl (by decide +kernel) (Nat.le_of_ble_eq_true rfl) (fun X hX hE => ?_)
  change J X 0 0 (wC t ad o c_count c_size c_pitches c_consonances) 0 [(0, .ref (ad o)), (1, .int a0)] []
  unfold f_X1_greatestStillToCome at hf
  refine j_aload_n hX dX1_greatestStillToCome_0 rfl 0 rfl ?_
  refine j_get hX dX1_greatestStillToCome_1 inX1 1 q141 0 rfl rfl (by decide) rfl rfl ?_
  refine j_iload_n hX dX1_greatestStillToCome_4 rfl 1 rfl ?_
  refine j_isub hX dX1_greatestStillToCome_5 ?_
  refine j_istore_n hX [(2, .int (c_size - a0)), (0, .ref (ad o)), (1, .int a0)] dX1_greatestStillToCome_6 rfl (by decide) rfl ?_
  refine j_aload_n hX dX1_greatestStillToCome_7 rfl 1 rfl ?_
  refine j_get hX dX1_greatestStillToCome_8 inX1 1 q141 0 rfl rfl (by decide) rfl rfl ?_
  refine j_aload_n hX dX1_greatestStillToCome_11 rfl 1 rfl ?_
  refine j_get hX dX1_greatestStillToCome_12 inX1 1 q141 0 rfl rfl (by decide) rfl rfl ?_
  refine j_iconst hX 1 dX1_greatestStillToCome_15 (by decide) ?_
  refine j_isub hX dX1_greatestStillToCome_16 ?_
  refine j_imul hX dX1_greatestStillToCome_17 ?_
  refine j_iload_n hX dX1_greatestStillToCome_18 rfl 0 rfl ?_
  refine j_iload_n hX dX1_greatestStillToCome_19 rfl 0 rfl ?_
  refine j_iconst hX 1 dX1_greatestStillToCome_20 (by decide) ?_
  refine j_isub hX dX1_greatestStillToCome_21 ?_
  refine j_imul hX dX1_greatestStillToCome_22 ?_
  refine j_isub hX dX1_greatestStillToCome_23 ?_
  refine j_iconst hX 2 dX1_greatestStillToCome_24 (by decide) ?_
  refine j_idiv hX dX1_greatestStillToCome_25 (by decide) ?_
  refine j_bipush hX 15 dX1_greatestStillToCome_26 (by decide) ?_
  refine j_imul hX dX1_greatestStillToCome_28 ?_
  cases hf
  exact j_iret hX hE dX1_greatestStillToCome_29 (Nat.le_refl _) (Nat.le_refl _) ⟨rfl, rfl⟩
-- HammerDepot$Chords extend (LHammerDepot$Chords;IIII)I
def f_X1_extend_L34 (rec : Int32 → Int32 → (Nat → Int32) → Int32 → Int32 → Int32 → Int32 → Option (Int32)) (c_count : Int32) (c_size : Int32) (c_consonances : Nat → Int32) (x5 : Int32) (x2 : Int32) (x3 : Int32) : Nat → Int32 → Int32 → Option (Int32 × Int32)
  | 0, _, _ => none
  | jn + 1, x7, x6 =>
    if c_count < (x7 + x5) then
      some (x7, x6)
    else
      Option.bind (f_X1_withChosen c_count c_consonances x7 x2) (fun u3 =>
        Option.bind (f_X1_greatestStillToCome c_size (x5 - 1)) (fun u5 =>
          if ((x3 + u3) + u5) ≤ x6 then
            f_X1_extend_L34 rec c_count c_size c_consonances x5 x2 x3 jn (x7 + 1) x6
          else
            Option.bind (rec c_count c_size c_consonances (x7 + 1) (x2 ||| ((1 : Int32) <<< (x7 &&& 31))) (x3 + u3) x6) (fun u7 =>
              f_X1_extend_L34 rec c_count c_size c_consonances x5 x2 x3 jn (x7 + 1) u7)))
def f_X1_extend : Nat → Int32 → Int32 → (Nat → Int32) → Int32 → Int32 → Int32 → Int32 → Option (Int32)
  | 0, _, _, _, _, _, _, _ => none
  | jd + 1, c_count, c_size, c_consonances, a1, a2, a3, a4 =>
    Option.bind (f_J6_bitCount_0f7a4 a2) (fun u1 =>
      if 0 < (c_size - u1) then
        Option.bind (f_X1_extend_L34 (f_X1_extend jd) c_count c_size c_consonances (c_size - u1) a2 a3 jFU (jmax a1 (0 : Int32)) a4) (fun s10 =>
          some s10.2)
      else
        some (jmax a4 a3))
set_option maxHeartbeats 4000000 in
set_option maxRecDepth 100000 in
theorem k_X1_extend_L34 {l : Launch} {D : va_G} {t : Nat → ClassId} {ad : Nat → Nat} {o : Nat} {jd : Nat} (rec : Int32 → Int32 → (Nat → Int32) → Int32 → Int32 → Int32 → Int32 → Option (Int32)) (hrec : ∀ (c_count : Int32) (c_size : Int32) (c_pitches : Nat → Int32) (c_consonances : Nat → Int32) (a1 : Int32) (a2 : Int32) (a3 : Int32) (a4 : Int32) (u : Int32) (hf : rec c_count c_size c_consonances a1 a2 a3 a4 = some u), cm l D (jT t) yX1_extend cX1_extend 9 (some FieldType.int) { frames := 2 + jd, cells := 0, slots := 0, locals := 47 + 28 * jd } [.ref (ad o), .int a1, .int a2, .int a3, .int a4] (wC t ad o c_count c_size c_pitches c_consonances) (fun v w => v = (some (.int u)) ∧ w = wC t ad o c_count c_size c_pitches c_consonances)) (c_count : Int32) (c_size : Int32) (c_consonances : Nat → Int32) (x5 : Int32) (x2 : Int32) (x3 : Int32) (c_pitches : Nat → Int32) (x1 : Int32) (x4 : Int32) {X : jX} (hX : jOK X l D (jT t) cX1_extend RX1 (some FieldType.int) { frames := 2 + (jd + 1), cells := 0, slots := 0, locals := 47 + 28 * (jd + 1) } 9) :
    ∀ (jn : Nat) (x7 : Int32) (x6 : Int32) (u : Int32 × Int32) (hf : f_X1_extend_L34 rec c_count c_size c_consonances x5 x2 x3 jn x7 x6 = some u) (kx : ∀ s : Int32 × Int32, u = s → J X 0 0 (wC t ad o c_count c_size c_pitches c_consonances) 99 [(7, .int s.1), (6, .int s.2), (5, .int x5), (0, .ref (ad o)), (1, .int x1), (2, .int x2), (3, .int x3), (4, .int x4)] []), J X 0 0 (wC t ad o c_count c_size c_pitches c_consonances) 34 [(7, .int x7), (6, .int x6), (5, .int x5), (0, .ref (ad o)), (1, .int x1), (2, .int x2), (3, .int x3), (4, .int x4)] [] := by
  intro jn
  induction jn with
  | zero => intro x7 x6 u hf; cases (show (none : Option (Int32 × Int32)) = some u from hf)
  | succ jn ih =>
    intro x7 x6 u hf kx
    unfold f_X1_extend_L34 at hf
    refine j_iload hX dX1_extend_34 0 rfl ?_
    refine j_iload hX dX1_extend_36 2 rfl ?_
    refine j_iadd hX dX1_extend_38 ?_
    refine j_aload_n hX dX1_extend_39 rfl 3 rfl ?_
    refine j_get hX dX1_extend_40 inX1 0 q140 0 rfl rfl (by decide) rfl rfl ?_
    refine j_icmp_gt hX 99 dX1_extend_43 (by decide) hf (fun c43 hf => ?_) (fun c43 hf => ?_)
    · cases hf
      exact kx _ rfl
    · refine j_iload_n hX dX1_extend_46 rfl 6 rfl ?_
      refine j_aload_n hX dX1_extend_47 rfl 3 rfl ?_
      refine j_iload hX dX1_extend_48 0 rfl ?_
      refine j_iload_n hX dX1_extend_50 rfl 5 rfl ?_
      obtain ⟨u3, h4, hf⟩ := jbind hf
      refine j_callV (st := [.int x3]) hX (k_X1_withChosen (l := l) (D := D) (t := t) (ad := ad) (o := o) c_count c_size c_pitches c_consonances x7 x2 u3 h4) q517 q518 q1926 q9 q519 (n9 := 2) rfl ⟨by decide +kernel, ⟨by show 1 + 1 ≤ 2 + (jd + 1); omega, by show 8 + (5 + 11) + 23 ≤ 47 + 28 * (jd + 1); omega⟩⟩ 0 rfl rfl rfl dX1_extend_51 (Nat.le_of_ble_eq_true rfl) ⟨Nat.le_refl _, Nat.le_refl _⟩ (fun w : va_W => w) jFr_id rfl rfl (fun v w hvw => ?_)
      obtain ⟨rfl, rfl⟩ := hvw
      change J X 0 0 (wC t ad o c_count c_size c_pitches c_consonances) 54 [(7, .int x7), (6, .int x6), (5, .int x5), (0, .ref (ad o)), (1, .int x1), (2, .int x2), (3, .int x3), (4, .int x4)] [.int u3, .int x3]
      refine j_iadd hX dX1_extend_54 ?_
      refine j_istore hX [(8, .int (x3 + u3)), (7, .int x7), (6, .int x6), (5, .int x5), (0, .ref (ad o)), (1, .int x1), (2, .int x2), (3, .int x3), (4, .int x4)] dX1_extend_55 (by decide) rfl ?_
      refine j_iload hX dX1_extend_57 0 rfl ?_
      refine j_aload_n hX dX1_extend_59 rfl 4 rfl ?_
      refine j_iload hX dX1_extend_60 3 rfl ?_
      refine j_iconst hX 1 dX1_extend_62 (by decide) ?_
      refine j_isub hX dX1_extend_63 ?_
      obtain ⟨u5, h6, hf⟩ := jbind hf
      refine j_callV (st := [.int (x3 + u3)]) hX (k_X1_greatestStillToCome (l := l) (D := D) (t := t) (ad := ad) (o := o) c_count c_size c_pitches c_consonances (x5 - 1) u5 h6) q523 q524 q1928 q9 q525 (n9 := 1) rfl ⟨by decide +kernel, ⟨by show 0 + 1 ≤ 2 + (jd + 1); omega, by show 8 + (3 + 11) + 0 ≤ 47 + 28 * (jd + 1); omega⟩⟩ 0 rfl rfl rfl dX1_extend_64 (Nat.le_of_ble_eq_true rfl) ⟨Nat.le_refl _, Nat.le_refl _⟩ (fun w : va_W => w) jFr_id rfl rfl (fun v w hvw => ?_)
      obtain ⟨rfl, rfl⟩ := hvw
      change J X 0 0 (wC t ad o c_count c_size c_pitches c_consonances) 67 [(8, .int (x3 + u3)), (7, .int x7), (6, .int x6), (5, .int x5), (0, .ref (ad o)), (1, .int x1), (2, .int x2), (3, .int x3), (4, .int x4)] [.int u5, .int (x3 + u3)]
      refine j_iadd hX dX1_extend_67 ?_
      refine j_iload hX dX1_extend_68 2 rfl ?_
      refine j_icmp_le hX 93 dX1_extend_70 (by decide) hf (fun c70 hf => ?_) (fun c70 hf => ?_)
      · refine j_iinc hX (x7 + 1) [(7, .int (x7 + 1)), (8, .int (x3 + u3)), (6, .int x6), (5, .int x5), (0, .ref (ad o)), (1, .int x1), (2, .int x2), (3, .int x3), (4, .int x4)] dX1_extend_93 1 rfl rfl (by decide) rfl ?_
        refine j_goto hX 34 dX1_extend_96 (by decide) ?_
        refine j_sub hX [(7, .int (x7 + 1)), (6, .int x6), (5, .int x5), (0, .ref (ad o)), (1, .int x1), (2, .int x2), (3, .int x3), (4, .int x4)] [0, 2, 3, 4, 5, 6, 7, 8] rfl ?_
        exact ih (x7 + 1) x6 u hf kx
      · refine j_aload_n hX dX1_extend_73 rfl 4 rfl ?_
        refine j_iload hX dX1_extend_74 1 rfl ?_
        refine j_iconst hX 1 dX1_extend_76 (by decide) ?_
        refine j_iadd hX dX1_extend_77 ?_
        refine j_iload_n hX dX1_extend_78 rfl 6 rfl ?_
        refine j_iconst hX 1 dX1_extend_79 (by decide) ?_
        refine j_iload hX dX1_extend_80 1 rfl ?_
        refine j_ishl hX dX1_extend_82 ?_
        refine j_ior hX dX1_extend_83 ?_
        refine j_iload hX dX1_extend_84 0 rfl ?_
        refine j_iload hX dX1_extend_86 2 rfl ?_
        obtain ⟨u7, h8, hf⟩ := jbind hf
        refine j_callS (st := []) hX (hrec c_count c_size c_pitches c_consonances (x7 + 1) (x2 ||| ((1 : Int32) <<< (x7 &&& 31))) (x3 + u3) x6 u7 h8) q510 q511 q9 q512 (n9 := 5) rfl ⟨by decide +kernel, ⟨by show 2 + jd + 1 ≤ 2 + (jd + 1); omega, by show 8 + (9 + 11) + (47 + 28 * jd) ≤ 47 + 28 * (jd + 1); omega⟩⟩ dX1_extend_88 (Nat.le_of_ble_eq_true rfl) ⟨Nat.le_refl _, Nat.le_refl _⟩ (fun w : va_W => w) jFr_id rfl rfl (fun v w hvw => ?_)
        obtain ⟨rfl, rfl⟩ := hvw
        change J X 0 0 (wC t ad o c_count c_size c_pitches c_consonances) 91 [(8, .int (x3 + u3)), (7, .int x7), (6, .int x6), (5, .int x5), (0, .ref (ad o)), (1, .int x1), (2, .int x2), (3, .int x3), (4, .int x4)] [.int u7]
        refine j_istore hX [(6, .int u7), (8, .int (x3 + u3)), (7, .int x7), (5, .int x5), (0, .ref (ad o)), (1, .int x1), (2, .int x2), (3, .int x3), (4, .int x4)] dX1_extend_91 (by decide) rfl ?_
        refine j_iinc hX (x7 + 1) [(7, .int (x7 + 1)), (6, .int u7), (8, .int (x3 + u3)), (5, .int x5), (0, .ref (ad o)), (1, .int x1), (2, .int x2), (3, .int x3), (4, .int x4)] dX1_extend_93 2 rfl rfl (by decide) rfl ?_
        refine j_goto hX 34 dX1_extend_96 (by decide) ?_
        refine j_sub hX [(7, .int (x7 + 1)), (6, .int u7), (5, .int x5), (0, .ref (ad o)), (1, .int x1), (2, .int x2), (3, .int x3), (4, .int x4)] [0, 1, 3, 4, 5, 6, 7, 8] rfl ?_
        exact ih (x7 + 1) u7 u hf kx
set_option maxHeartbeats 4000000 in
set_option maxRecDepth 100000 in
theorem k_X1_extend {l : Launch} {D : va_G} {t : Nat → ClassId} {ad : Nat → Nat} {o : Nat} : ∀ (jd : Nat) (c_count : Int32) (c_size : Int32) (c_pitches : Nat → Int32) (c_consonances : Nat → Int32) (a1 : Int32) (a2 : Int32) (a3 : Int32) (a4 : Int32) (u : Int32) (hf : f_X1_extend jd c_count c_size c_consonances a1 a2 a3 a4 = some u), cm l D (jT t) yX1_extend cX1_extend 9 (some FieldType.int) { frames := 2 + jd, cells := 0, slots := 0, locals := 47 + 28 * jd } [.ref (ad o), .int a1, .int a2, .int a3, .int a4] (wC t ad o c_count c_size c_pitches c_consonances) (fun v w => v = (some (.int u)) ∧ w = wC t ad o c_count c_size c_pitches c_consonances) := by
  intro jd
  induction jd with
  | zero => intro c_count c_size c_pitches c_consonances a1 a2 a3 a4 u hf; cases (show (none : Option (Int32)) = some u from hf)
  | succ jd hrec =>
    intro c_count c_size c_pitches c_consonances a1 a2 a3 a4 u hf
    refine cm_of RX1 rfl (by decide +kernel) (Nat.le_of_ble_eq_true rfl) (fun X hX hE => ?_)
    change J X 0 0 (wC t ad o c_count c_size c_pitches c_consonances) 0 [(0, .ref (ad o)), (1, .int a1), (2, .int a2), (3, .int a3), (4, .int a4)] []
    unfold f_X1_extend at hf
    refine j_aload_n hX dX1_extend_0 rfl 0 rfl ?_
    refine j_get hX dX1_extend_1 inX1 1 q141 0 rfl rfl (by decide) rfl rfl ?_
    refine j_iload_n hX dX1_extend_4 rfl 2 rfl ?_
    obtain ⟨u1, h2, hf⟩ := jbind hf
    refine j_callS (st := [.int c_size]) hX (k_J6_bitCount_0f7a4 (l := l) (D := D) (t := t) (ad := ad)  a2 u1 h2) q513 q450 q29 q451 (n9 := 1) rfl ⟨by decide +kernel, ⟨by show 0 + 1 ≤ 2 + (jd + 1); omega, by show 8 + (1 + 11) + 0 ≤ 47 + 28 * (jd + 1); omega⟩⟩ dX1_extend_5 (Nat.le_of_ble_eq_true rfl) ⟨Nat.le_refl _, Nat.le_refl _⟩ (fun w : va_W => w ++ (wC t ad o c_count c_size c_pitches c_consonances)) (jFr_r (wC t ad o c_count c_size c_pitches c_consonances)) rfl rfl (fun v w hvw => ?_)
    obtain ⟨rfl, rfl⟩ := hvw
    change J X 0 0 (wC t ad o c_count c_size c_pitches c_consonances) 8 [(0, .ref (ad o)), (1, .int a1), (2, .int a2), (3, .int a3), (4, .int a4)] [.int u1, .int c_size]
    refine j_isub hX dX1_extend_8 ?_
    refine j_istore hX [(5, .int (c_size - u1)), (0, .ref (ad o)), (1, .int a1), (2, .int a2), (3, .int a3), (4, .int a4)] dX1_extend_9 (by decide) rfl ?_
    refine j_iload hX dX1_extend_11 0 rfl ?_
    refine j_if_gt hX 23 dX1_extend_13 (by decide) hf (fun c13 hf => ?_) (fun c13 hf => ?_)
    · refine j_iload hX dX1_extend_23 5 rfl ?_
      refine j_istore hX [(6, .int a4), (5, .int (c_size - u1)), (0, .ref (ad o)), (1, .int a1), (2, .int a2), (3, .int a3), (4, .int a4)] dX1_extend_25 (by decide) rfl ?_
      refine j_iload_n hX dX1_extend_27 rfl 3 rfl ?_
      refine j_iconst hX 0 dX1_extend_28 (by decide) ?_
      refine j_mmax hX q514 dX1_extend_29 (Nat.le_of_ble_eq_true rfl) ⟨by show 1 ≤ 2 + (jd + 1); omega, by show 21 ≤ 47 + 28 * (jd + 1); omega⟩ ⟨Nat.le_refl _, Nat.le_refl _⟩ ?_
      refine j_istore hX [(7, .int (jmax a1 (0 : Int32))), (6, .int a4), (5, .int (c_size - u1)), (0, .ref (ad o)), (1, .int a1), (2, .int a2), (3, .int a3), (4, .int a4)] dX1_extend_32 (by decide) rfl ?_
      obtain ⟨s10, h11, hf⟩ := jbind hf
      refine k_X1_extend_L34 (ad := ad) (f_X1_extend jd) hrec c_count c_size c_consonances (c_size - u1) a2 a3 c_pitches a1 a4 hX jFU (jmax a1 (0 : Int32)) a4 s10 h11 (fun s100 es10 => ?_)
      subst es10
      refine j_iload hX dX1_extend_99 1 rfl ?_
      cases hf
      exact j_iret hX hE dX1_extend_101 (Nat.le_refl _) (Nat.le_refl _) ⟨rfl, rfl⟩
    · refine j_iload hX dX1_extend_16 5 rfl ?_
      refine j_iload_n hX dX1_extend_18 rfl 4 rfl ?_
      refine j_mmax hX q514 dX1_extend_19 (Nat.le_of_ble_eq_true rfl) ⟨by show 1 ≤ 2 + (jd + 1); omega, by show 21 ≤ 47 + 28 * (jd + 1); omega⟩ ⟨Nat.le_refl _, Nat.le_refl _⟩ ?_
      cases hf
      exact j_iret hX hE dX1_extend_22 (Nat.le_refl _) (Nat.le_refl _) ⟨rfl, rfl⟩
-- HammerDepot$Chords best (I)I
def f_X1_best (c_count : Int32) (c_size : Int32) (c_consonances : Nat → Int32) (a0 : Int32) : Option (Int32 × Int32) :=
  Option.bind (f_X1_extend 16 c_count a0 c_consonances 0 0 0 (-1)) (fun u1 =>
    some (u1, a0))
set_option maxHeartbeats 4000000 in
set_option maxRecDepth 100000 in
theorem k_X1_best {l : Launch} {D : va_G} {t : Nat → ClassId} {ad : Nat → Nat} {o : Nat} (c_count : Int32) (c_size : Int32) (c_pitches : Nat → Int32) (c_consonances : Nat → Int32) (a0 : Int32) (u : Int32 × Int32) (hf : f_X1_best c_count c_size c_consonances a0 = some u) : cm l D (jT t) yX1_best cX1_best 2 (some FieldType.int) { frames := 19, cells := 0, slots := 0, locals := 523 } [.ref (ad o), .int a0] (wC t ad o c_count c_size c_pitches c_consonances) (fun v w => v = (some (.int u.1)) ∧ w = wC t ad o c_count u.2 c_pitches c_consonances) := by
  refine cm_of RX1 rfl (by decide +kernel) (Nat.le_of_ble_eq_true rfl) (fun X hX hE => ?_)
  change J X 0 0 (wC t ad o c_count c_size c_pitches c_consonances) 0 [(0, .ref (ad o)), (1, .int a0)] []
  unfold f_X1_best at hf
  refine j_aload_n hX dX1_best_0 rfl 0 rfl ?_
  refine j_iload_n hX dX1_best_1 rfl 1 rfl ?_
  refine j_put hX (wC t ad o c_count a0 c_pitches c_consonances) tyX1 dX1_best_2 inX1 tyX1_ok nmX1 1 q141 0 rfl rfl (by decide) rfl rfl rfl rfl rfl (Nat.le_of_ble_eq_true rfl) rfl ?_
  refine j_aload_n hX dX1_best_5 rfl 0 rfl ?_
  refine j_iconst hX 0 dX1_best_6 (by decide) ?_
  refine j_iconst hX 0 dX1_best_7 (by decide) ?_
  refine j_iconst hX 0 dX1_best_8 (by decide) ?_
  refine j_iconst hX (-1) dX1_best_9 (by decide) ?_
  obtain ⟨u1, h2, hf⟩ := jbind hf
  refine j_callS (st := []) hX (k_X1_extend (l := l) (D := D) (t := t) (ad := ad) (o := o) 16 c_count a0 c_pitches c_consonances 0 0 0 (-1) u1 h2) q510 q511 q9 q512 (n9 := 5) rfl ⟨by decide +kernel, by decide +kernel⟩ dX1_best_10 (Nat.le_of_ble_eq_true rfl) ⟨Nat.le_refl _, Nat.le_refl _⟩ (fun w : va_W => w) jFr_id rfl rfl (fun v w hvw => ?_)
  obtain ⟨rfl, rfl⟩ := hvw
  change J X 0 0 (wC t ad o c_count a0 c_pitches c_consonances) 13 [(0, .ref (ad o)), (1, .int a0)] [.int u1]
  cases hf
  exact j_iret hX hE dX1_best_13 (Nat.le_refl _) (Nat.le_refl _) ⟨rfl, rfl⟩
-- HammerDepot$Chords consonanceOf (I)I
def f_X1_consonanceOf_L4 (c_count : Int32) (c_consonances : Nat → Int32) (x1 : Int32) : Nat → Int32 → Int32 → Option (Int32 × Int32)
  | 0, _, _ => none
  | jn + 1, x3, x2 =>
    if c_count ≤ x3 then
      some (x3, x2)
    else
      if (x1 &&& ((1 : Int32) <<< (x3 &&& 31))) = 0 then
        f_X1_consonanceOf_L4 c_count c_consonances x1 jn (x3 + 1) x2
      else
        Option.bind (f_X1_withChosen c_count c_consonances x3 (x1 &&& (((1 : Int32) <<< (x3 &&& 31)) - 1))) (fun u1 =>
          f_X1_consonanceOf_L4 c_count c_consonances x1 jn (x3 + 1) (x2 + u1))
def f_X1_consonanceOf (c_count : Int32) (c_consonances : Nat → Int32) (a0 : Int32) : Option (Int32) :=
  Option.bind (f_X1_consonanceOf_L4 c_count c_consonances a0 jFU 0 0) (fun s4 =>
    some s4.2)
set_option maxHeartbeats 4000000 in
set_option maxRecDepth 100000 in
theorem k_X1_consonanceOf_L4 {l : Launch} {D : va_G} {t : Nat → ClassId} {ad : Nat → Nat} {o : Nat} (c_count : Int32) (c_consonances : Nat → Int32) (x1 : Int32) (c_size : Int32) (c_pitches : Nat → Int32) {X : jX} (hX : jOK X l D (jT t) cX1_consonanceOf RX1 (some FieldType.int) { frames := 2, cells := 0, slots := 0, locals := 47 } 4) :
    ∀ (jn : Nat) (x3 : Int32) (x2 : Int32) (u : Int32 × Int32) (hf : f_X1_consonanceOf_L4 c_count c_consonances x1 jn x3 x2 = some u) (kx : ∀ s : Int32 × Int32, u = s → J X 0 0 (wC t ad o c_count c_size c_pitches c_consonances) 41 [(3, .int s.1), (2, .int s.2), (0, .ref (ad o)), (1, .int x1)] []), J X 0 0 (wC t ad o c_count c_size c_pitches c_consonances) 4 [(3, .int x3), (2, .int x2), (0, .ref (ad o)), (1, .int x1)] [] := by
  intro jn
  induction jn with
  | zero => intro x3 x2 u hf; cases (show (none : Option (Int32 × Int32)) = some u from hf)
  | succ jn ih =>
    intro x3 x2 u hf kx
    unfold f_X1_consonanceOf_L4 at hf
    refine j_iload_n hX dX1_consonanceOf_4 rfl 0 rfl ?_
    refine j_aload_n hX dX1_consonanceOf_5 rfl 2 rfl ?_
    refine j_get hX dX1_consonanceOf_6 inX1 0 q140 0 rfl rfl (by decide) rfl rfl ?_
    refine j_icmp_ge hX 41 dX1_consonanceOf_9 (by decide) hf (fun c9 hf => ?_) (fun c9 hf => ?_)
    · cases hf
      exact kx _ rfl
    · refine j_iload_n hX dX1_consonanceOf_12 rfl 3 rfl ?_
      refine j_iconst hX 1 dX1_consonanceOf_13 (by decide) ?_
      refine j_iload_n hX dX1_consonanceOf_14 rfl 0 rfl ?_
      refine j_ishl hX dX1_consonanceOf_15 ?_
      refine j_iand hX dX1_consonanceOf_16 ?_
      refine j_if_eq hX 35 dX1_consonanceOf_17 (by decide) hf (fun c17 hf => ?_) (fun c17 hf => ?_)
      · refine j_iinc hX (x3 + 1) [(3, .int (x3 + 1)), (2, .int x2), (0, .ref (ad o)), (1, .int x1)] dX1_consonanceOf_35 0 rfl rfl (by decide) rfl ?_
        refine j_goto hX 4 dX1_consonanceOf_38 (by decide) ?_
        exact ih (x3 + 1) x2 u hf kx
      · refine j_iload_n hX dX1_consonanceOf_20 rfl 1 rfl ?_
        refine j_aload_n hX dX1_consonanceOf_21 rfl 2 rfl ?_
        refine j_iload_n hX dX1_consonanceOf_22 rfl 0 rfl ?_
        refine j_iload_n hX dX1_consonanceOf_23 rfl 3 rfl ?_
        refine j_iconst hX 1 dX1_consonanceOf_24 (by decide) ?_
        refine j_iload_n hX dX1_consonanceOf_25 rfl 0 rfl ?_
        refine j_ishl hX dX1_consonanceOf_26 ?_
        refine j_iconst hX 1 dX1_consonanceOf_27 (by decide) ?_
        refine j_isub hX dX1_consonanceOf_28 ?_
        refine j_iand hX dX1_consonanceOf_29 ?_
        obtain ⟨u1, h2, hf⟩ := jbind hf
        refine j_callV (st := [.int x2]) hX (k_X1_withChosen (l := l) (D := D) (t := t) (ad := ad) (o := o) c_count c_size c_pitches c_consonances x3 (x1 &&& (((1 : Int32) <<< (x3 &&& 31)) - 1)) u1 h2) q517 q518 q1926 q9 q519 (n9 := 2) rfl ⟨by decide +kernel, by decide +kernel⟩ 0 rfl rfl rfl dX1_consonanceOf_30 (Nat.le_of_ble_eq_true rfl) ⟨Nat.le_refl _, Nat.le_refl _⟩ (fun w : va_W => w) jFr_id rfl rfl (fun v w hvw => ?_)
        obtain ⟨rfl, rfl⟩ := hvw
        change J X 0 0 (wC t ad o c_count c_size c_pitches c_consonances) 33 [(3, .int x3), (2, .int x2), (0, .ref (ad o)), (1, .int x1)] [.int u1, .int x2]
        refine j_iadd hX dX1_consonanceOf_33 ?_
        refine j_istore_n hX [(2, .int (x2 + u1)), (3, .int x3), (0, .ref (ad o)), (1, .int x1)] dX1_consonanceOf_34 rfl (by decide) rfl ?_
        refine j_iinc hX (x3 + 1) [(3, .int (x3 + 1)), (2, .int (x2 + u1)), (0, .ref (ad o)), (1, .int x1)] dX1_consonanceOf_35 1 rfl rfl (by decide) rfl ?_
        refine j_goto hX 4 dX1_consonanceOf_38 (by decide) ?_
        exact ih (x3 + 1) (x2 + u1) u hf kx
set_option maxHeartbeats 4000000 in
set_option maxRecDepth 100000 in
theorem k_X1_consonanceOf {l : Launch} {D : va_G} {t : Nat → ClassId} {ad : Nat → Nat} {o : Nat} (c_count : Int32) (c_size : Int32) (c_pitches : Nat → Int32) (c_consonances : Nat → Int32) (a0 : Int32) (u : Int32) (hf : f_X1_consonanceOf c_count c_consonances a0 = some u) : cm l D (jT t) yX1_consonanceOf cX1_consonanceOf 4 (some FieldType.int) { frames := 2, cells := 0, slots := 0, locals := 47 } [.ref (ad o), .int a0] (wC t ad o c_count c_size c_pitches c_consonances) (fun v w => v = (some (.int u)) ∧ w = wC t ad o c_count c_size c_pitches c_consonances) := by
  refine cm_of RX1 rfl (by decide +kernel) (Nat.le_of_ble_eq_true rfl) (fun X hX hE => ?_)
  change J X 0 0 (wC t ad o c_count c_size c_pitches c_consonances) 0 [(0, .ref (ad o)), (1, .int a0)] []
  unfold f_X1_consonanceOf at hf
  refine j_iconst hX 0 dX1_consonanceOf_0 (by decide) ?_
  refine j_istore_n hX [(2, .int 0), (0, .ref (ad o)), (1, .int a0)] dX1_consonanceOf_1 rfl (by decide) rfl ?_
  refine j_iconst hX 0 dX1_consonanceOf_2 (by decide) ?_
  refine j_istore_n hX [(3, .int 0), (2, .int 0), (0, .ref (ad o)), (1, .int a0)] dX1_consonanceOf_3 rfl (by decide) rfl ?_
  obtain ⟨s4, h5, hf⟩ := jbind hf
  refine k_X1_consonanceOf_L4 (ad := ad) c_count c_consonances a0 c_size c_pitches hX jFU 0 0 s4 h5 (fun s40 es4 => ?_)
  subst es4
  refine j_iload_n hX dX1_consonanceOf_41 rfl 1 rfl ?_
  cases hf
  exact j_iret hX hE dX1_consonanceOf_42 (Nat.le_refl _) (Nat.le_refl _) ⟨rfl, rfl⟩
-- HammerDepot$Chords bestBySets (I)I
def f_X1_bestBySets_L4 (c_count : Int32) (c_consonances : Nat → Int32) (x1 : Int32) : Nat → Int32 → Int32 → Option (Int32 × Int32)
  | 0, _, _ => none
  | jn + 1, x3, x2 =>
    if ((1 : Int32) <<< (c_count &&& 31)) ≤ x3 then
      some (x3, x2)
    else
      Option.bind (f_J6_bitCount_0f7a4 x3) (fun u1 =>
        if u1 = x1 then
          Option.bind (f_X1_consonanceOf c_count c_consonances x3) (fun u3 =>
            f_X1_bestBySets_L4 c_count c_consonances x1 jn (x3 + 1) (jmax x2 u3))
        else
          f_X1_bestBySets_L4 c_count c_consonances x1 jn (x3 + 1) x2)
def f_X1_bestBySets (c_count : Int32) (c_consonances : Nat → Int32) (a0 : Int32) : Option (Int32) :=
  Option.bind (f_X1_bestBySets_L4 c_count c_consonances a0 jFU 0 (-1)) (fun s6 =>
    some s6.2)
set_option maxHeartbeats 4000000 in
set_option maxRecDepth 100000 in
theorem k_X1_bestBySets_L4 {l : Launch} {D : va_G} {t : Nat → ClassId} {ad : Nat → Nat} {o : Nat} (c_count : Int32) (c_consonances : Nat → Int32) (x1 : Int32) (c_size : Int32) (c_pitches : Nat → Int32) {X : jX} (hX : jOK X l D (jT t) cX1_bestBySets RX1 (some FieldType.int) { frames := 3, cells := 0, slots := 0, locals := 70 } 4) :
    ∀ (jn : Nat) (x3 : Int32) (x2 : Int32) (u : Int32 × Int32) (hf : f_X1_bestBySets_L4 c_count c_consonances x1 jn x3 x2 = some u) (kx : ∀ s : Int32 × Int32, u = s → J X 0 0 (wC t ad o c_count c_size c_pitches c_consonances) 38 [(3, .int s.1), (2, .int s.2), (0, .ref (ad o)), (1, .int x1)] []), J X 0 0 (wC t ad o c_count c_size c_pitches c_consonances) 4 [(3, .int x3), (2, .int x2), (0, .ref (ad o)), (1, .int x1)] [] := by
  intro jn
  induction jn with
  | zero => intro x3 x2 u hf; cases (show (none : Option (Int32 × Int32)) = some u from hf)
  | succ jn ih =>
    intro x3 x2 u hf kx
    unfold f_X1_bestBySets_L4 at hf
    refine j_iload_n hX dX1_bestBySets_4 rfl 0 rfl ?_
    refine j_iconst hX 1 dX1_bestBySets_5 (by decide) ?_
    refine j_aload_n hX dX1_bestBySets_6 rfl 2 rfl ?_
    refine j_get hX dX1_bestBySets_7 inX1 0 q140 0 rfl rfl (by decide) rfl rfl ?_
    refine j_ishl hX dX1_bestBySets_10 ?_
    refine j_icmp_ge hX 38 dX1_bestBySets_11 (by decide) hf (fun c11 hf => ?_) (fun c11 hf => ?_)
    · cases hf
      exact kx _ rfl
    · refine j_iload_n hX dX1_bestBySets_14 rfl 0 rfl ?_
      obtain ⟨u1, h2, hf⟩ := jbind hf
      refine j_callS (st := []) hX (k_J6_bitCount_0f7a4 (l := l) (D := D) (t := t) (ad := ad)  x3 u1 h2) q513 q450 q29 q451 (n9 := 1) rfl ⟨by decide +kernel, by decide +kernel⟩ dX1_bestBySets_15 (Nat.le_of_ble_eq_true rfl) ⟨Nat.le_refl _, Nat.le_refl _⟩ (fun w : va_W => w ++ (wC t ad o c_count c_size c_pitches c_consonances)) (jFr_r (wC t ad o c_count c_size c_pitches c_consonances)) rfl rfl (fun v w hvw => ?_)
      obtain ⟨rfl, rfl⟩ := hvw
      change J X 0 0 (wC t ad o c_count c_size c_pitches c_consonances) 18 [(3, .int x3), (2, .int x2), (0, .ref (ad o)), (1, .int x1)] [.int u1]
      refine j_iload_n hX dX1_bestBySets_18 rfl 3 rfl ?_
      refine j_icmp_ne hX 32 dX1_bestBySets_19 (by decide) hf (fun c19 hf => ?_) (fun c19 hf => ?_)
      · refine j_iinc hX (x3 + 1) [(3, .int (x3 + 1)), (2, .int x2), (0, .ref (ad o)), (1, .int x1)] dX1_bestBySets_32 0 rfl rfl (by decide) rfl ?_
        refine j_goto hX 4 dX1_bestBySets_35 (by decide) ?_
        exact ih (x3 + 1) x2 u hf kx
      · refine j_iload_n hX dX1_bestBySets_22 rfl 1 rfl ?_
        refine j_aload_n hX dX1_bestBySets_23 rfl 2 rfl ?_
        refine j_iload_n hX dX1_bestBySets_24 rfl 0 rfl ?_
        obtain ⟨u3, h4, hf⟩ := jbind hf
        refine j_callV (st := [.int x2]) hX (k_X1_consonanceOf (l := l) (D := D) (t := t) (ad := ad) (o := o) c_count c_size c_pitches c_consonances x3 u3 h4) q530 q531 q1929 q9 q532 (n9 := 1) rfl ⟨by decide +kernel, by decide +kernel⟩ 0 rfl rfl rfl dX1_bestBySets_25 (Nat.le_of_ble_eq_true rfl) ⟨Nat.le_refl _, Nat.le_refl _⟩ (fun w : va_W => w) jFr_id rfl rfl (fun v w hvw => ?_)
        obtain ⟨rfl, rfl⟩ := hvw
        change J X 0 0 (wC t ad o c_count c_size c_pitches c_consonances) 28 [(3, .int x3), (2, .int x2), (0, .ref (ad o)), (1, .int x1)] [.int u3, .int x2]
        refine j_mmax hX q514 dX1_bestBySets_28 (Nat.le_of_ble_eq_true rfl) (by decide) ⟨Nat.le_refl _, Nat.le_refl _⟩ ?_
        refine j_istore_n hX [(2, .int (jmax x2 u3)), (3, .int x3), (0, .ref (ad o)), (1, .int x1)] dX1_bestBySets_31 rfl (by decide) rfl ?_
        refine j_iinc hX (x3 + 1) [(3, .int (x3 + 1)), (2, .int (jmax x2 u3)), (0, .ref (ad o)), (1, .int x1)] dX1_bestBySets_32 1 rfl rfl (by decide) rfl ?_
        refine j_goto hX 4 dX1_bestBySets_35 (by decide) ?_
        exact ih (x3 + 1) (jmax x2 u3) u hf kx
set_option maxHeartbeats 4000000 in
set_option maxRecDepth 100000 in
theorem k_X1_bestBySets {l : Launch} {D : va_G} {t : Nat → ClassId} {ad : Nat → Nat} {o : Nat} (c_count : Int32) (c_size : Int32) (c_pitches : Nat → Int32) (c_consonances : Nat → Int32) (a0 : Int32) (u : Int32) (hf : f_X1_bestBySets c_count c_consonances a0 = some u) : cm l D (jT t) yX1_bestBySets cX1_bestBySets 4 (some FieldType.int) { frames := 3, cells := 0, slots := 0, locals := 70 } [.ref (ad o), .int a0] (wC t ad o c_count c_size c_pitches c_consonances) (fun v w => v = (some (.int u)) ∧ w = wC t ad o c_count c_size c_pitches c_consonances) := by
  refine cm_of RX1 rfl (by decide +kernel) (Nat.le_of_ble_eq_true rfl) (fun X hX hE => ?_)
  change J X 0 0 (wC t ad o c_count c_size c_pitches c_consonances) 0 [(0, .ref (ad o)), (1, .int a0)] []
  unfold f_X1_bestBySets at hf
  refine j_iconst hX (-1) dX1_bestBySets_0 (by decide) ?_
  refine j_istore_n hX [(2, .int (-1)), (0, .ref (ad o)), (1, .int a0)] dX1_bestBySets_1 rfl (by decide) rfl ?_
  refine j_iconst hX 0 dX1_bestBySets_2 (by decide) ?_
  refine j_istore_n hX [(3, .int 0), (2, .int (-1)), (0, .ref (ad o)), (1, .int a0)] dX1_bestBySets_3 rfl (by decide) rfl ?_
  obtain ⟨s6, h7, hf⟩ := jbind hf
  refine k_X1_bestBySets_L4 (ad := ad) c_count c_consonances a0 c_size c_pitches hX jFU 0 (-1) s6 h7 (fun s60 es6 => ?_)
  subst es6
  refine j_iload_n hX dX1_bestBySets_38 rfl 1 rfl ?_
  cases hf
  exact j_iret hX hE dX1_bestBySets_39 (Nat.le_refl _) (Nat.le_refl _) ⟨rfl, rfl⟩

-- HammerDepot$Sorting numberOf (LHammerDepot$Hammers;II)I
def f_X7_numberOf_L5 (h_count : Int32) (h_pitches : Nat → Int32) (h_contents : Nat → Int32) (x1 : Int32) (x2 : Int32) : Nat → Int32 → Int32 → Option (Int32 × Int32)
  | 0, _, _ => none
  | jn + 1, x4, x3 =>
    if 6 ≤ x4 then
      some (x4, x3)
    else
      Option.bind (f_X2_contentOf h_contents x1 x4) (fun u1 =>
        if u1 = (-1) then
          f_X7_numberOf_L5 h_count h_pitches h_contents x1 x2 jn (x4 + 1) x3
        else
          Option.bind (f_X2_sortsBefore h_count h_pitches u1 x2) (fun u3 =>
            if u3 = 0 then
              f_X7_numberOf_L5 h_count h_pitches h_contents x1 x2 jn (x4 + 1) x3
            else
              f_X7_numberOf_L5 h_count h_pitches h_contents x1 x2 jn (x4 + 1) (x3 + 1)))
def f_X7_numberOf (h_count : Int32) (h_pitches : Nat → Int32) (h_contents : Nat → Int32) (a1 : Int32) (a2 : Int32) : Option (Int32) :=
  Option.bind (f_X7_numberOf_L5 h_count h_pitches h_contents a1 a2 jFU 0 1) (fun s6 =>
    some s6.2)
set_option maxHeartbeats 4000000 in
set_option maxRecDepth 100000 in
theorem k_X7_numberOf_L5 {l : Launch} {D : va_G} {t : Nat → ClassId} {ad : Nat → Nat} {o : Nat} (h_count : Int32) (h_pitches : Nat → Int32) (h_contents : Nat → Int32) (x1 : Int32) (x2 : Int32) (h_wears : Nat → Int32) (h_slots : Nat → Int32) (h_borrowers : Nat → Int32) (h_dueDays : Nat → Int32) {X : jX} (hX : jOK X l D (jT t) cX7_numberOf RX7 (some FieldType.int) { frames := 2, cells := 0, slots := 0, locals := 44 } 6) :
    ∀ (jn : Nat) (x4 : Int32) (x3 : Int32) (u : Int32 × Int32) (hf : f_X7_numberOf_L5 h_count h_pitches h_contents x1 x2 jn x4 x3 = some u) (kx : ∀ s : Int32 × Int32, u = s → J X 0 0 (wH t ad o h_count h_pitches h_wears h_slots h_borrowers h_dueDays h_contents) 46 [(4, .int s.1), (3, .int s.2), (0, .ref (ad o)), (1, .int x1), (2, .int x2)] []), J X 0 0 (wH t ad o h_count h_pitches h_wears h_slots h_borrowers h_dueDays h_contents) 5 [(4, .int x4), (3, .int x3), (0, .ref (ad o)), (1, .int x1), (2, .int x2)] [] := by
  intro jn
  induction jn with
  | zero => intro x4 x3 u hf; cases (show (none : Option (Int32 × Int32)) = some u from hf)
  | succ jn ih =>
    intro x4 x3 u hf kx
    unfold f_X7_numberOf_L5 at hf
    refine j_iload hX dX7_numberOf_5 0 rfl ?_
    refine j_bipush hX 6 dX7_numberOf_7 (by decide) ?_
    refine j_icmp_ge hX 46 dX7_numberOf_9 (by decide) hf (fun c9 hf => ?_) (fun c9 hf => ?_)
    · cases hf
      exact kx _ rfl
    · refine j_aload_n hX dX7_numberOf_12 rfl 2 rfl ?_
      refine j_iload_n hX dX7_numberOf_13 rfl 3 rfl ?_
      refine j_iload hX dX7_numberOf_14 0 rfl ?_
      obtain ⟨u1, h2, hf⟩ := jbind hf
      refine j_callV (st := []) hX (k_X2_contentOf (l := l) (D := D) (t := t) (ad := ad) (o := o) h_count h_pitches h_wears h_slots h_borrowers h_dueDays h_contents x1 x4 u1 h2) q539 q540 q541 q3 q542 (n9 := 2) rfl ⟨by decide +kernel, by decide +kernel⟩ 0 rfl rfl rfl dX7_numberOf_16 (Nat.le_of_ble_eq_true rfl) ⟨Nat.le_refl _, Nat.le_refl _⟩ (fun w : va_W => w) jFr_id rfl rfl (fun v w hvw => ?_)
      obtain ⟨rfl, rfl⟩ := hvw
      change J X 0 0 (wH t ad o h_count h_pitches h_wears h_slots h_borrowers h_dueDays h_contents) 19 [(4, .int x4), (3, .int x3), (0, .ref (ad o)), (1, .int x1), (2, .int x2)] [.int u1]
      refine j_istore hX [(5, .int u1), (4, .int x4), (3, .int x3), (0, .ref (ad o)), (1, .int x1), (2, .int x2)] dX7_numberOf_19 (by decide) rfl ?_
      refine j_iload hX dX7_numberOf_21 0 rfl ?_
      refine j_iconst hX (-1) dX7_numberOf_23 (by decide) ?_
      refine j_icmp_eq hX 40 dX7_numberOf_24 (by decide) hf (fun c24 hf => ?_) (fun c24 hf => ?_)
      · refine j_iinc hX (x4 + 1) [(4, .int (x4 + 1)), (5, .int u1), (3, .int x3), (0, .ref (ad o)), (1, .int x1), (2, .int x2)] dX7_numberOf_40 1 rfl rfl (by decide) rfl ?_
        refine j_goto hX 5 dX7_numberOf_43 (by decide) ?_
        refine j_sub hX [(4, .int (x4 + 1)), (3, .int x3), (0, .ref (ad o)), (1, .int x1), (2, .int x2)] [0, 2, 3, 4, 5] rfl ?_
        exact ih (x4 + 1) x3 u hf kx
      · refine j_aload_n hX dX7_numberOf_27 rfl 3 rfl ?_
        refine j_iload hX dX7_numberOf_28 0 rfl ?_
        refine j_iload_n hX dX7_numberOf_30 rfl 5 rfl ?_
        obtain ⟨u3, h4, hf⟩ := jbind hf
        refine j_callV (st := []) hX (k_X2_sortsBefore (l := l) (D := D) (t := t) (ad := ad) (o := o) h_count h_pitches h_wears h_slots h_borrowers h_dueDays h_contents u1 x2 u3 h4) q552 q553 q554 q3 q555 (n9 := 2) rfl ⟨by decide +kernel, by decide +kernel⟩ 0 rfl rfl rfl dX7_numberOf_31 (Nat.le_of_ble_eq_true rfl) ⟨Nat.le_refl _, Nat.le_refl _⟩ (fun w : va_W => w) jFr_id rfl rfl (fun v w hvw => ?_)
        obtain ⟨rfl, rfl⟩ := hvw
        change J X 0 0 (wH t ad o h_count h_pitches h_wears h_slots h_borrowers h_dueDays h_contents) 34 [(5, .int u1), (4, .int x4), (3, .int x3), (0, .ref (ad o)), (1, .int x1), (2, .int x2)] [.int u3]
        refine j_if_eq hX 40 dX7_numberOf_34 (by decide) hf (fun c34 hf => ?_) (fun c34 hf => ?_)
        · refine j_iinc hX (x4 + 1) [(4, .int (x4 + 1)), (5, .int u1), (3, .int x3), (0, .ref (ad o)), (1, .int x1), (2, .int x2)] dX7_numberOf_40 1 rfl rfl (by decide) rfl ?_
          refine j_goto hX 5 dX7_numberOf_43 (by decide) ?_
          refine j_sub hX [(4, .int (x4 + 1)), (3, .int x3), (0, .ref (ad o)), (1, .int x1), (2, .int x2)] [0, 2, 3, 4, 5] rfl ?_
          exact ih (x4 + 1) x3 u hf kx
        · refine j_iinc hX (x3 + 1) [(3, .int (x3 + 1)), (5, .int u1), (4, .int x4), (0, .ref (ad o)), (1, .int x1), (2, .int x2)] dX7_numberOf_37 2 rfl rfl (by decide) rfl ?_
          refine j_iinc hX (x4 + 1) [(4, .int (x4 + 1)), (3, .int (x3 + 1)), (5, .int u1), (0, .ref (ad o)), (1, .int x1), (2, .int x2)] dX7_numberOf_40 2 rfl rfl (by decide) rfl ?_
          refine j_goto hX 5 dX7_numberOf_43 (by decide) ?_
          refine j_sub hX [(4, .int (x4 + 1)), (3, .int (x3 + 1)), (0, .ref (ad o)), (1, .int x1), (2, .int x2)] [0, 1, 3, 4, 5] rfl ?_
          exact ih (x4 + 1) (x3 + 1) u hf kx
set_option maxHeartbeats 4000000 in
set_option maxRecDepth 100000 in
theorem k_X7_numberOf {l : Launch} {D : va_G} {t : Nat → ClassId} {ad : Nat → Nat} {o : Nat} (h_count : Int32) (h_pitches : Nat → Int32) (h_wears : Nat → Int32) (h_slots : Nat → Int32) (h_borrowers : Nat → Int32) (h_dueDays : Nat → Int32) (h_contents : Nat → Int32) (a1 : Int32) (a2 : Int32) (u : Int32) (hf : f_X7_numberOf h_count h_pitches h_contents a1 a2 = some u) : cm l D (jT t) yX7_numberOf cX7_numberOf 6 (some FieldType.int) { frames := 2, cells := 0, slots := 0, locals := 44 } [.ref (ad o), .int a1, .int a2] (wH t ad o h_count h_pitches h_wears h_slots h_borrowers h_dueDays h_contents) (fun v w => v = (some (.int u)) ∧ w = wH t ad o h_count h_pitches h_wears h_slots h_borrowers h_dueDays h_contents) := by
  refine cm_of RX7 rfl (by decide +kernel) (Nat.le_of_ble_eq_true rfl) (fun X hX hE => ?_)
  change J X 0 0 (wH t ad o h_count h_pitches h_wears h_slots h_borrowers h_dueDays h_contents) 0 [(0, .ref (ad o)), (1, .int a1), (2, .int a2)] []
  unfold f_X7_numberOf at hf
  refine j_iconst hX 1 dX7_numberOf_0 (by decide) ?_
  refine j_istore_n hX [(3, .int 1), (0, .ref (ad o)), (1, .int a1), (2, .int a2)] dX7_numberOf_1 rfl (by decide) rfl ?_
  refine j_iconst hX 0 dX7_numberOf_2 (by decide) ?_
  refine j_istore hX [(4, .int 0), (3, .int 1), (0, .ref (ad o)), (1, .int a1), (2, .int a2)] dX7_numberOf_3 (by decide) rfl ?_
  obtain ⟨s6, h7, hf⟩ := jbind hf
  refine k_X7_numberOf_L5 (ad := ad) h_count h_pitches h_contents a1 a2 h_wears h_slots h_borrowers h_dueDays hX jFU 0 1 s6 h7 (fun s60 es6 => ?_)
  subst es6
  refine j_iload_n hX dX7_numberOf_46 rfl 1 rfl ?_
  cases hf
  exact j_iret hX hE dX7_numberOf_47 (Nat.le_refl _) (Nat.le_refl _) ⟨rfl, rfl⟩
-- HammerDepot$Sorting codeOf (LHammerDepot$Hammers;I)I
def f_X7_codeOf_L4 (h_count : Int32) (h_pitches : Nat → Int32) (h_contents : Nat → Int32) (x1 : Int32) : Nat → Int32 → Int32 → Option (Int32 × Int32)
  | 0, _, _ => none
  | jn + 1, x3, x2 =>
    if 6 ≤ x3 then
      some (x3, x2)
    else
      Option.bind (f_X2_contentOf h_contents x1 x3) (fun u1 =>
        if u1 = (-1) then
          f_X7_codeOf_L4 h_count h_pitches h_contents x1 jn (x3 + 1) x2
        else
          Option.bind (f_X7_numberOf h_count h_pitches h_contents x1 u1) (fun u3 =>
            f_X7_codeOf_L4 h_count h_pitches h_contents x1 jn (x3 + 1) (x2 ||| (u3 <<< (((3 : Int32) * x3) &&& 31)))))
def f_X7_codeOf (h_count : Int32) (h_pitches : Nat → Int32) (h_contents : Nat → Int32) (a1 : Int32) : Option (Int32) :=
  Option.bind (f_X7_codeOf_L4 h_count h_pitches h_contents a1 jFU 0 0) (fun s6 =>
    some s6.2)
set_option maxHeartbeats 4000000 in
set_option maxRecDepth 100000 in
theorem k_X7_codeOf_L4 {l : Launch} {D : va_G} {t : Nat → ClassId} {ad : Nat → Nat} {o : Nat} (h_count : Int32) (h_pitches : Nat → Int32) (h_contents : Nat → Int32) (x1 : Int32) (h_wears : Nat → Int32) (h_slots : Nat → Int32) (h_borrowers : Nat → Int32) (h_dueDays : Nat → Int32) {X : jX} (hX : jOK X l D (jT t) cX7_codeOf RX7 (some FieldType.int) { frames := 3, cells := 0, slots := 0, locals := 69 } 5) :
    ∀ (jn : Nat) (x3 : Int32) (x2 : Int32) (u : Int32 × Int32) (hf : f_X7_codeOf_L4 h_count h_pitches h_contents x1 jn x3 x2 = some u) (kx : ∀ s : Int32 × Int32, u = s → J X 0 0 (wH t ad o h_count h_pitches h_wears h_slots h_borrowers h_dueDays h_contents) 44 [(3, .int s.1), (2, .int s.2), (0, .ref (ad o)), (1, .int x1)] []), J X 0 0 (wH t ad o h_count h_pitches h_wears h_slots h_borrowers h_dueDays h_contents) 4 [(3, .int x3), (2, .int x2), (0, .ref (ad o)), (1, .int x1)] [] := by
  intro jn
  induction jn with
  | zero => intro x3 x2 u hf; cases (show (none : Option (Int32 × Int32)) = some u from hf)
  | succ jn ih =>
    intro x3 x2 u hf kx
    unfold f_X7_codeOf_L4 at hf
    refine j_iload_n hX dX7_codeOf_4 rfl 0 rfl ?_
    refine j_bipush hX 6 dX7_codeOf_5 (by decide) ?_
    refine j_icmp_ge hX 44 dX7_codeOf_7 (by decide) hf (fun c7 hf => ?_) (fun c7 hf => ?_)
    · cases hf
      exact kx _ rfl
    · refine j_aload_n hX dX7_codeOf_10 rfl 2 rfl ?_
      refine j_iload_n hX dX7_codeOf_11 rfl 3 rfl ?_
      refine j_iload_n hX dX7_codeOf_12 rfl 0 rfl ?_
      obtain ⟨u1, h2, hf⟩ := jbind hf
      refine j_callV (st := []) hX (k_X2_contentOf (l := l) (D := D) (t := t) (ad := ad) (o := o) h_count h_pitches h_wears h_slots h_borrowers h_dueDays h_contents x1 x3 u1 h2) q539 q540 q541 q3 q542 (n9 := 2) rfl ⟨by decide +kernel, by decide +kernel⟩ 0 rfl rfl rfl dX7_codeOf_13 (Nat.le_of_ble_eq_true rfl) ⟨Nat.le_refl _, Nat.le_refl _⟩ (fun w : va_W => w) jFr_id rfl rfl (fun v w hvw => ?_)
      obtain ⟨rfl, rfl⟩ := hvw
      change J X 0 0 (wH t ad o h_count h_pitches h_wears h_slots h_borrowers h_dueDays h_contents) 16 [(3, .int x3), (2, .int x2), (0, .ref (ad o)), (1, .int x1)] [.int u1]
      refine j_istore hX [(4, .int u1), (3, .int x3), (2, .int x2), (0, .ref (ad o)), (1, .int x1)] dX7_codeOf_16 (by decide) rfl ?_
      refine j_iload hX dX7_codeOf_18 0 rfl ?_
      refine j_iconst hX (-1) dX7_codeOf_20 (by decide) ?_
      refine j_icmp_eq hX 38 dX7_codeOf_21 (by decide) hf (fun c21 hf => ?_) (fun c21 hf => ?_)
      · refine j_iinc hX (x3 + 1) [(3, .int (x3 + 1)), (4, .int u1), (2, .int x2), (0, .ref (ad o)), (1, .int x1)] dX7_codeOf_38 1 rfl rfl (by decide) rfl ?_
        refine j_goto hX 4 dX7_codeOf_41 (by decide) ?_
        refine j_sub hX [(3, .int (x3 + 1)), (2, .int x2), (0, .ref (ad o)), (1, .int x1)] [0, 2, 3, 4] rfl ?_
        exact ih (x3 + 1) x2 u hf kx
      · refine j_iload_n hX dX7_codeOf_24 rfl 2 rfl ?_
        refine j_aload_n hX dX7_codeOf_25 rfl 3 rfl ?_
        refine j_iload_n hX dX7_codeOf_26 rfl 4 rfl ?_
        refine j_iload hX dX7_codeOf_27 0 rfl ?_
        obtain ⟨u3, h4, hf⟩ := jbind hf
        refine j_callS (st := [.int x2]) hX (k_X7_numberOf (l := l) (D := D) (t := t) (ad := ad) (o := o) h_count h_pitches h_wears h_slots h_borrowers h_dueDays h_contents x1 u1 u3 h4) q549 q550 q27 q551 (n9 := 3) rfl ⟨by decide +kernel, by decide +kernel⟩ dX7_codeOf_29 (Nat.le_of_ble_eq_true rfl) ⟨Nat.le_refl _, Nat.le_refl _⟩ (fun w : va_W => w) jFr_id rfl rfl (fun v w hvw => ?_)
        obtain ⟨rfl, rfl⟩ := hvw
        change J X 0 0 (wH t ad o h_count h_pitches h_wears h_slots h_borrowers h_dueDays h_contents) 32 [(4, .int u1), (3, .int x3), (2, .int x2), (0, .ref (ad o)), (1, .int x1)] [.int u3, .int x2]
        refine j_iconst hX 3 dX7_codeOf_32 (by decide) ?_
        refine j_iload_n hX dX7_codeOf_33 rfl 1 rfl ?_
        refine j_imul hX dX7_codeOf_34 ?_
        refine j_ishl hX dX7_codeOf_35 ?_
        refine j_ior hX dX7_codeOf_36 ?_
        refine j_istore_n hX [(2, .int (x2 ||| (u3 <<< (((3 : Int32) * x3) &&& 31)))), (4, .int u1), (3, .int x3), (0, .ref (ad o)), (1, .int x1)] dX7_codeOf_37 rfl (by decide) rfl ?_
        refine j_iinc hX (x3 + 1) [(3, .int (x3 + 1)), (2, .int (x2 ||| (u3 <<< (((3 : Int32) * x3) &&& 31)))), (4, .int u1), (0, .ref (ad o)), (1, .int x1)] dX7_codeOf_38 2 rfl rfl (by decide) rfl ?_
        refine j_goto hX 4 dX7_codeOf_41 (by decide) ?_
        refine j_sub hX [(3, .int (x3 + 1)), (2, .int (x2 ||| (u3 <<< (((3 : Int32) * x3) &&& 31)))), (0, .ref (ad o)), (1, .int x1)] [0, 1, 3, 4] rfl ?_
        exact ih (x3 + 1) (x2 ||| (u3 <<< (((3 : Int32) * x3) &&& 31))) u hf kx
set_option maxHeartbeats 4000000 in
set_option maxRecDepth 100000 in
theorem k_X7_codeOf {l : Launch} {D : va_G} {t : Nat → ClassId} {ad : Nat → Nat} {o : Nat} (h_count : Int32) (h_pitches : Nat → Int32) (h_wears : Nat → Int32) (h_slots : Nat → Int32) (h_borrowers : Nat → Int32) (h_dueDays : Nat → Int32) (h_contents : Nat → Int32) (a1 : Int32) (u : Int32) (hf : f_X7_codeOf h_count h_pitches h_contents a1 = some u) : cm l D (jT t) yX7_codeOf cX7_codeOf 5 (some FieldType.int) { frames := 3, cells := 0, slots := 0, locals := 69 } [.ref (ad o), .int a1] (wH t ad o h_count h_pitches h_wears h_slots h_borrowers h_dueDays h_contents) (fun v w => v = (some (.int u)) ∧ w = wH t ad o h_count h_pitches h_wears h_slots h_borrowers h_dueDays h_contents) := by
  refine cm_of RX7 rfl (by decide +kernel) (Nat.le_of_ble_eq_true rfl) (fun X hX hE => ?_)
  change J X 0 0 (wH t ad o h_count h_pitches h_wears h_slots h_borrowers h_dueDays h_contents) 0 [(0, .ref (ad o)), (1, .int a1)] []
  unfold f_X7_codeOf at hf
  refine j_iconst hX 0 dX7_codeOf_0 (by decide) ?_
  refine j_istore_n hX [(2, .int 0), (0, .ref (ad o)), (1, .int a1)] dX7_codeOf_1 rfl (by decide) rfl ?_
  refine j_iconst hX 0 dX7_codeOf_2 (by decide) ?_
  refine j_istore_n hX [(3, .int 0), (2, .int 0), (0, .ref (ad o)), (1, .int a1)] dX7_codeOf_3 rfl (by decide) rfl ?_
  obtain ⟨s6, h7, hf⟩ := jbind hf
  refine k_X7_codeOf_L4 (ad := ad) h_count h_pitches h_contents a1 h_wears h_slots h_borrowers h_dueDays hX jFU 0 0 s6 h7 (fun s60 es6 => ?_)
  subst es6
  refine j_iload_n hX dX7_codeOf_44 rfl 1 rfl ?_
  cases hf
  exact j_iret hX hE dX7_codeOf_45 (Nat.le_refl _) (Nat.le_refl _) ⟨rfl, rfl⟩
-- HammerDepot$Sorting contentAt (II)I
def f_X7_contentAt (a0 : Int32) (a1 : Int32) : Option (Int32) :=
  some ((a0 >>> (((3 : Int32) * a1) &&& 31)) &&& 7)
set_option maxHeartbeats 4000000 in
set_option maxRecDepth 100000 in
theorem k_X7_contentAt {l : Launch} {D : va_G} {t : Nat → ClassId} {ad : Nat → Nat}  (a0 : Int32) (a1 : Int32) (u : Int32) (hf : f_X7_contentAt a0 a1 = some u) : cm l D (jT t) yX7_contentAt cX7_contentAt 2 (some FieldType.int) { frames := 0, cells := 0, slots := 0, locals := 0 } [.int a0, .int a1] ([]) (fun v w => v = (some (.int u)) ∧ w = []) := by
  refine cm_of RX7 rfl (by decide +kernel) (Nat.le_of_ble_eq_true rfl) (fun X hX hE => ?_)
  change J X 0 0 ([]) 0 [(0, .int a0), (1, .int a1)] []
  unfold f_X7_contentAt at hf
  refine j_iload_n hX dX7_contentAt_0 rfl 0 rfl ?_
  refine j_iconst hX 3 dX7_contentAt_1 (by decide) ?_
  refine j_iload_n hX dX7_contentAt_2 rfl 1 rfl ?_
  refine j_imul hX dX7_contentAt_3 ?_
  refine j_ishr hX dX7_contentAt_4 ?_
  refine j_bipush hX 7 dX7_contentAt_5 (by decide) ?_
  refine j_iand hX dX7_contentAt_7 ?_
  cases hf
  exact j_iret hX hE dX7_contentAt_8 (Nat.le_refl _) (Nat.le_refl _) ⟨rfl, rfl⟩
-- HammerDepot$Sorting isMisplaced (II)Z
def f_X7_isMisplaced (a0 : Int32) (a1 : Int32) : Option (Int32) :=
  if a0 = 0 then
    some 0
  else
    if (a0 - 1) = a1 then
      some 0
    else
      some 1
set_option maxHeartbeats 4000000 in
set_option maxRecDepth 100000 in
theorem k_X7_isMisplaced {l : Launch} {D : va_G} {t : Nat → ClassId} {ad : Nat → Nat}  (a0 : Int32) (a1 : Int32) (u : Int32) (hf : f_X7_isMisplaced a0 a1 = some u) : cm l D (jT t) yX7_isMisplaced cX7_isMisplaced 2 (some FieldType.boolean) { frames := 0, cells := 0, slots := 0, locals := 0 } [.int a0, .int a1] ([]) (fun v w => v = (some (.int u)) ∧ w = []) := by
  refine cm_of RX7 rfl (by decide +kernel) (Nat.le_of_ble_eq_true rfl) (fun X hX hE => ?_)
  change J X 0 0 ([]) 0 [(0, .int a0), (1, .int a1)] []
  unfold f_X7_isMisplaced at hf
  refine j_iload_n hX dX7_isMisplaced_0 rfl 0 rfl ?_
  refine j_if_eq hX 15 dX7_isMisplaced_1 (by decide) hf (fun c1 hf => ?_) (fun c1 hf => ?_)
  · refine j_iconst hX 0 dX7_isMisplaced_15 (by decide) ?_
    cases hf
    exact j_zret hX hE rfl dX7_isMisplaced_16 (Nat.le_refl _) (Nat.le_refl _) ⟨rfl, rfl⟩
  · refine j_iload_n hX dX7_isMisplaced_4 rfl 0 rfl ?_
    refine j_iconst hX 1 dX7_isMisplaced_5 (by decide) ?_
    refine j_isub hX dX7_isMisplaced_6 ?_
    refine j_iload_n hX dX7_isMisplaced_7 rfl 1 rfl ?_
    refine j_icmp_eq hX 15 dX7_isMisplaced_8 (by decide) hf (fun c8 hf => ?_) (fun c8 hf => ?_)
    · refine j_iconst hX 0 dX7_isMisplaced_15 (by decide) ?_
      cases hf
      exact j_zret hX hE rfl dX7_isMisplaced_16 (Nat.le_refl _) (Nat.le_refl _) ⟨rfl, rfl⟩
    · refine j_iconst hX 1 dX7_isMisplaced_11 (by decide) ?_
      refine j_goto hX 16 dX7_isMisplaced_12 (by decide) ?_
      cases hf
      exact j_zret hX hE rfl dX7_isMisplaced_16 (Nat.le_refl _) (Nat.le_refl _) ⟨rfl, rfl⟩
-- HammerDepot$Sorting misplaced (I)I
def f_X7_misplaced_L4 (x0 : Int32) : Nat → Int32 → Int32 → Option (Int32 × Int32)
  | 0, _, _ => none
  | jn + 1, x2, x1 =>
    if 6 ≤ x2 then
      some (x2, x1)
    else
      Option.bind (f_X7_contentAt x0 x2) (fun u1 =>
        Option.bind (f_X7_isMisplaced u1 x2) (fun u3 =>
          if u3 = 0 then
            f_X7_misplaced_L4 x0 jn (x2 + 1) x1
          else
            f_X7_misplaced_L4 x0 jn (x2 + 1) (x1 + 1)))
def f_X7_misplaced (a0 : Int32) : Option (Int32) :=
  Option.bind (f_X7_misplaced_L4 a0 jFU 0 0) (fun s6 =>
    some s6.2)
set_option maxHeartbeats 4000000 in
set_option maxRecDepth 100000 in
theorem k_X7_misplaced_L4 {l : Launch} {D : va_G} {t : Nat → ClassId} {ad : Nat → Nat} (x0 : Int32)  {X : jX} (hX : jOK X l D (jT t) cX7_misplaced RX7 (some FieldType.int) { frames := 1, cells := 0, slots := 0, locals := 21 } 3) :
    ∀ (jn : Nat) (x2 : Int32) (x1 : Int32) (u : Int32 × Int32) (hf : f_X7_misplaced_L4 x0 jn x2 x1 = some u) (kx : ∀ s : Int32 × Int32, u = s → J X 0 0 ([]) 31 [(2, .int s.1), (1, .int s.2), (0, .int x0)] []), J X 0 0 ([]) 4 [(2, .int x2), (1, .int x1), (0, .int x0)] [] := by
  intro jn
  induction jn with
  | zero => intro x2 x1 u hf; cases (show (none : Option (Int32 × Int32)) = some u from hf)
  | succ jn ih =>
    intro x2 x1 u hf kx
    unfold f_X7_misplaced_L4 at hf
    refine j_iload_n hX dX7_misplaced_4 rfl 0 rfl ?_
    refine j_bipush hX 6 dX7_misplaced_5 (by decide) ?_
    refine j_icmp_ge hX 31 dX7_misplaced_7 (by decide) hf (fun c7 hf => ?_) (fun c7 hf => ?_)
    · cases hf
      exact kx _ rfl
    · refine j_iload_n hX dX7_misplaced_10 rfl 2 rfl ?_
      refine j_iload_n hX dX7_misplaced_11 rfl 0 rfl ?_
      obtain ⟨u1, h2, hf⟩ := jbind hf
      refine j_callS (st := []) hX (k_X7_contentAt (l := l) (D := D) (t := t) (ad := ad)  x0 x2 u1 h2) q565 q566 q27 q567 (n9 := 2) rfl ⟨by decide +kernel, by decide +kernel⟩ dX7_misplaced_12 (Nat.le_of_ble_eq_true rfl) ⟨Nat.le_refl _, Nat.le_refl _⟩ (fun w : va_W => w ++ ([])) (jFr_r ([])) rfl rfl (fun v w hvw => ?_)
      obtain ⟨rfl, rfl⟩ := hvw
      change J X 0 0 ([]) 15 [(2, .int x2), (1, .int x1), (0, .int x0)] [.int u1]
      refine j_iload_n hX dX7_misplaced_15 rfl 0 rfl ?_
      obtain ⟨u3, h4, hf⟩ := jbind hf
      refine j_callS (st := []) hX (k_X7_isMisplaced (l := l) (D := D) (t := t) (ad := ad)  u1 x2 u3 h4) q568 q569 q27 q570 (n9 := 2) rfl ⟨by decide +kernel, by decide +kernel⟩ dX7_misplaced_16 (Nat.le_of_ble_eq_true rfl) ⟨Nat.le_refl _, Nat.le_refl _⟩ (fun w : va_W => w ++ ([])) (jFr_r ([])) rfl rfl (fun v w hvw => ?_)
      obtain ⟨rfl, rfl⟩ := hvw
      change J X 0 0 ([]) 19 [(2, .int x2), (1, .int x1), (0, .int x0)] [.int u3]
      refine j_if_eq hX 25 dX7_misplaced_19 (by decide) hf (fun c19 hf => ?_) (fun c19 hf => ?_)
      · refine j_iinc hX (x2 + 1) [(2, .int (x2 + 1)), (1, .int x1), (0, .int x0)] dX7_misplaced_25 0 rfl rfl (by decide) rfl ?_
        refine j_goto hX 4 dX7_misplaced_28 (by decide) ?_
        exact ih (x2 + 1) x1 u hf kx
      · refine j_iinc hX (x1 + 1) [(1, .int (x1 + 1)), (2, .int x2), (0, .int x0)] dX7_misplaced_22 1 rfl rfl (by decide) rfl ?_
        refine j_iinc hX (x2 + 1) [(2, .int (x2 + 1)), (1, .int (x1 + 1)), (0, .int x0)] dX7_misplaced_25 1 rfl rfl (by decide) rfl ?_
        refine j_goto hX 4 dX7_misplaced_28 (by decide) ?_
        exact ih (x2 + 1) (x1 + 1) u hf kx
set_option maxHeartbeats 4000000 in
set_option maxRecDepth 100000 in
theorem k_X7_misplaced {l : Launch} {D : va_G} {t : Nat → ClassId} {ad : Nat → Nat}  (a0 : Int32) (u : Int32) (hf : f_X7_misplaced a0 = some u) : cm l D (jT t) yX7_misplaced cX7_misplaced 3 (some FieldType.int) { frames := 1, cells := 0, slots := 0, locals := 21 } [.int a0] ([]) (fun v w => v = (some (.int u)) ∧ w = []) := by
  refine cm_of RX7 rfl (by decide +kernel) (Nat.le_of_ble_eq_true rfl) (fun X hX hE => ?_)
  change J X 0 0 ([]) 0 [(0, .int a0)] []
  unfold f_X7_misplaced at hf
  refine j_iconst hX 0 dX7_misplaced_0 (by decide) ?_
  refine j_istore_n hX [(1, .int 0), (0, .int a0)] dX7_misplaced_1 rfl (by decide) rfl ?_
  refine j_iconst hX 0 dX7_misplaced_2 (by decide) ?_
  refine j_istore_n hX [(2, .int 0), (1, .int 0), (0, .int a0)] dX7_misplaced_3 rfl (by decide) rfl ?_
  obtain ⟨s6, h7, hf⟩ := jbind hf
  refine k_X7_misplaced_L4 (ad := ad) a0  hX jFU 0 0 s6 h7 (fun s60 es6 => ?_)
  subst es6
  refine j_iload_n hX dX7_misplaced_31 rfl 1 rfl ?_
  cases hf
  exact j_iret hX hE dX7_misplaced_32 (Nat.le_refl _) (Nat.le_refl _) ⟨rfl, rfl⟩
-- HammerDepot$Sorting firstMisplaced (I)I
def f_X7_firstMisplaced_L2 (x0 : Int32) : Nat → Int32 → Option ((Int32) ⊕ (Int32))
  | 0, _ => none
  | jn + 1, x1 =>
    if 6 ≤ x1 then
      some (.inr x1)
    else
      Option.bind (f_X7_contentAt x0 x1) (fun u1 =>
        Option.bind (f_X7_isMisplaced u1 x1) (fun u3 =>
          if u3 = 0 then
            f_X7_firstMisplaced_L2 x0 jn (x1 + 1)
          else
            some (.inl x1)))
def f_X7_firstMisplaced (a0 : Int32) : Option (Int32) :=
  Option.bind (f_X7_firstMisplaced_L2 a0 jFU 0) (fun o5 => Sum.elim (fun r => some r) (fun s6 =>
    some 0) o5)
set_option maxHeartbeats 4000000 in
set_option maxRecDepth 100000 in
theorem k_X7_firstMisplaced_L2 {l : Launch} {D : va_G} {t : Nat → ClassId} {ad : Nat → Nat} (x0 : Int32)  {X : jX} (hX : jOK X l D (jT t) cX7_firstMisplaced RX7 (some FieldType.int) { frames := 1, cells := 0, slots := 0, locals := 21 } 2) {PP : Option Value → va_W → Prop} (hE : jEnd X PP 0 0) :
    ∀ (jn : Nat) (x1 : Int32) (u : (Int32) ⊕ (Int32)) (hf : f_X7_firstMisplaced_L2 x0 jn x1 = some u) (kx : ∀ s : Int32, u = .inr s → J X 0 0 ([]) 28 [(1, .int s), (0, .int x0)] []) (kr : ∀ r : Int32, u = .inl r → PP (some (.int r)) ([])), J X 0 0 ([]) 2 [(1, .int x1), (0, .int x0)] [] := by
  intro jn
  induction jn with
  | zero => intro x1 u hf; cases (show (none : Option ((Int32) ⊕ (Int32))) = some u from hf)
  | succ jn ih =>
    intro x1 u hf kx kr
    unfold f_X7_firstMisplaced_L2 at hf
    refine j_iload_n hX dX7_firstMisplaced_2 rfl 0 rfl ?_
    refine j_bipush hX 6 dX7_firstMisplaced_3 (by decide) ?_
    refine j_icmp_ge hX 28 dX7_firstMisplaced_5 (by decide) hf (fun c5 hf => ?_) (fun c5 hf => ?_)
    · cases hf
      exact kx _ rfl
    · refine j_iload_n hX dX7_firstMisplaced_8 rfl 1 rfl ?_
      refine j_iload_n hX dX7_firstMisplaced_9 rfl 0 rfl ?_
      obtain ⟨u1, h2, hf⟩ := jbind hf
      refine j_callS (st := []) hX (k_X7_contentAt (l := l) (D := D) (t := t) (ad := ad)  x0 x1 u1 h2) q565 q566 q27 q567 (n9 := 2) rfl ⟨by decide +kernel, by decide +kernel⟩ dX7_firstMisplaced_10 (Nat.le_of_ble_eq_true rfl) ⟨Nat.le_refl _, Nat.le_refl _⟩ (fun w : va_W => w ++ ([])) (jFr_r ([])) rfl rfl (fun v w hvw => ?_)
      obtain ⟨rfl, rfl⟩ := hvw
      change J X 0 0 ([]) 13 [(1, .int x1), (0, .int x0)] [.int u1]
      refine j_iload_n hX dX7_firstMisplaced_13 rfl 0 rfl ?_
      obtain ⟨u3, h4, hf⟩ := jbind hf
      refine j_callS (st := []) hX (k_X7_isMisplaced (l := l) (D := D) (t := t) (ad := ad)  u1 x1 u3 h4) q568 q569 q27 q570 (n9 := 2) rfl ⟨by decide +kernel, by decide +kernel⟩ dX7_firstMisplaced_14 (Nat.le_of_ble_eq_true rfl) ⟨Nat.le_refl _, Nat.le_refl _⟩ (fun w : va_W => w ++ ([])) (jFr_r ([])) rfl rfl (fun v w hvw => ?_)
      obtain ⟨rfl, rfl⟩ := hvw
      change J X 0 0 ([]) 17 [(1, .int x1), (0, .int x0)] [.int u3]
      refine j_if_eq hX 22 dX7_firstMisplaced_17 (by decide) hf (fun c17 hf => ?_) (fun c17 hf => ?_)
      · refine j_iinc hX (x1 + 1) [(1, .int (x1 + 1)), (0, .int x0)] dX7_firstMisplaced_22 0 rfl rfl (by decide) rfl ?_
        refine j_goto hX 2 dX7_firstMisplaced_25 (by decide) ?_
        exact ih (x1 + 1) u hf kx kr
      · refine j_iload_n hX dX7_firstMisplaced_20 rfl 0 rfl ?_
        cases hf
        exact j_iret hX hE dX7_firstMisplaced_21 (Nat.le_refl _) (Nat.le_refl _) (kr _ rfl)
set_option maxHeartbeats 4000000 in
set_option maxRecDepth 100000 in
theorem k_X7_firstMisplaced {l : Launch} {D : va_G} {t : Nat → ClassId} {ad : Nat → Nat}  (a0 : Int32) (u : Int32) (hf : f_X7_firstMisplaced a0 = some u) : cm l D (jT t) yX7_firstMisplaced cX7_firstMisplaced 2 (some FieldType.int) { frames := 1, cells := 0, slots := 0, locals := 21 } [.int a0] ([]) (fun v w => v = (some (.int u)) ∧ w = []) := by
  refine cm_of RX7 rfl (by decide +kernel) (Nat.le_of_ble_eq_true rfl) (fun X hX hE => ?_)
  change J X 0 0 ([]) 0 [(0, .int a0)] []
  unfold f_X7_firstMisplaced at hf
  refine j_iconst hX 0 dX7_firstMisplaced_0 (by decide) ?_
  refine j_istore_n hX [(1, .int 0), (0, .int a0)] dX7_firstMisplaced_1 rfl (by decide) rfl ?_
  obtain ⟨o5, h7, hf⟩ := jbind hf
  refine k_X7_firstMisplaced_L2 (ad := ad) a0  hX hE jFU 0 o5 h7 (fun s6 es6 => ?_) (fun r er => ?_)
  · subst es6
    have hf := jsum_r hf
    refine j_iconst hX 0 dX7_firstMisplaced_28 (by decide) ?_
    cases hf
    exact j_iret hX hE dX7_firstMisplaced_29 (Nat.le_refl _) (Nat.le_refl _) ⟨rfl, rfl⟩
  · subst er
    cases hf
    exact ⟨rfl, rfl⟩
-- HammerDepot$Sorting swapped (III)I
def f_X7_swapped (a0 : Int32) (a1 : Int32) (a2 : Int32) : Option (Int32) :=
  Option.bind (f_X7_contentAt a0 a1) (fun u1 =>
    Option.bind (f_X7_contentAt a0 a2) (fun u3 =>
      some ((a0 ^^^ ((u1 ^^^ u3) <<< (((3 : Int32) * a1) &&& 31))) ^^^ ((u1 ^^^ u3) <<< (((3 : Int32) * a2) &&& 31)))))
set_option maxHeartbeats 4000000 in
set_option maxRecDepth 100000 in
theorem k_X7_swapped {l : Launch} {D : va_G} {t : Nat → ClassId} {ad : Nat → Nat}  (a0 : Int32) (a1 : Int32) (a2 : Int32) (u : Int32) (hf : f_X7_swapped a0 a1 a2 = some u) : cm l D (jT t) yX7_swapped cX7_swapped 4 (some FieldType.int) { frames := 1, cells := 0, slots := 0, locals := 21 } [.int a0, .int a1, .int a2] ([]) (fun v w => v = (some (.int u)) ∧ w = []) := by
  refine cm_of RX7 rfl (by decide +kernel) (Nat.le_of_ble_eq_true rfl) (fun X hX hE => ?_)
  change J X 0 0 ([]) 0 [(0, .int a0), (1, .int a1), (2, .int a2)] []
  unfold f_X7_swapped at hf
  refine j_iload_n hX dX7_swapped_0 rfl 0 rfl ?_
  refine j_iload_n hX dX7_swapped_1 rfl 1 rfl ?_
  obtain ⟨u1, h2, hf⟩ := jbind hf
  refine j_callS (st := []) hX (k_X7_contentAt (l := l) (D := D) (t := t) (ad := ad)  a0 a1 u1 h2) q565 q566 q27 q567 (n9 := 2) rfl ⟨by decide +kernel, by decide +kernel⟩ dX7_swapped_2 (Nat.le_of_ble_eq_true rfl) ⟨Nat.le_refl _, Nat.le_refl _⟩ (fun w : va_W => w ++ ([])) (jFr_r ([])) rfl rfl (fun v w hvw => ?_)
  obtain ⟨rfl, rfl⟩ := hvw
  change J X 0 0 ([]) 5 [(0, .int a0), (1, .int a1), (2, .int a2)] [.int u1]
  refine j_iload_n hX dX7_swapped_5 rfl 0 rfl ?_
  refine j_iload_n hX dX7_swapped_6 rfl 2 rfl ?_
  obtain ⟨u3, h4, hf⟩ := jbind hf
  refine j_callS (st := [.int u1]) hX (k_X7_contentAt (l := l) (D := D) (t := t) (ad := ad)  a0 a2 u3 h4) q565 q566 q27 q567 (n9 := 2) rfl ⟨by decide +kernel, by decide +kernel⟩ dX7_swapped_7 (Nat.le_of_ble_eq_true rfl) ⟨Nat.le_refl _, Nat.le_refl _⟩ (fun w : va_W => w ++ ([])) (jFr_r ([])) rfl rfl (fun v w hvw => ?_)
  obtain ⟨rfl, rfl⟩ := hvw
  change J X 0 0 ([]) 10 [(0, .int a0), (1, .int a1), (2, .int a2)] [.int u3, .int u1]
  refine j_ixor hX dX7_swapped_10 ?_
  refine j_istore_n hX [(3, .int (u1 ^^^ u3)), (0, .int a0), (1, .int a1), (2, .int a2)] dX7_swapped_11 rfl (by decide) rfl ?_
  refine j_iload_n hX dX7_swapped_12 rfl 1 rfl ?_
  refine j_iload_n hX dX7_swapped_13 rfl 0 rfl ?_
  refine j_iconst hX 3 dX7_swapped_14 (by decide) ?_
  refine j_iload_n hX dX7_swapped_15 rfl 2 rfl ?_
  refine j_imul hX dX7_swapped_16 ?_
  refine j_ishl hX dX7_swapped_17 ?_
  refine j_ixor hX dX7_swapped_18 ?_
  refine j_iload_n hX dX7_swapped_19 rfl 0 rfl ?_
  refine j_iconst hX 3 dX7_swapped_20 (by decide) ?_
  refine j_iload_n hX dX7_swapped_21 rfl 3 rfl ?_
  refine j_imul hX dX7_swapped_22 ?_
  refine j_ishl hX dX7_swapped_23 ?_
  refine j_ixor hX dX7_swapped_24 ?_
  cases hf
  exact j_iret hX hE dX7_swapped_25 (Nat.le_refl _) (Nat.le_refl _) ⟨rfl, rfl⟩
-- HammerDepot$Sorting canSort (II)Z
def f_X7_canSort_L32 (rec : Int32 → Int32 → Option (Int32)) (x3 : Int32) (x0 : Int32) (x1 : Int32) : Nat → Int32 → Option ((Int32) ⊕ (Int32))
  | 0, _ => none
  | jn + 1, x4 =>
    if 6 ≤ x4 then
      some (.inr x4)
    else
      Option.bind (f_X7_swapped x0 x3 x4) (fun u5 =>
        if u5 = x0 then
          f_X7_canSort_L32 rec x3 x0 x1 jn (x4 + 1)
        else
          Option.bind (rec u5 (x1 - 1)) (fun u7 =>
            if u7 = 0 then
              f_X7_canSort_L32 rec x3 x0 x1 jn (x4 + 1)
            else
              some (.inl 1)))
def f_X7_canSort : Nat → Int32 → Int32 → Option (Int32)
  | 0, _, _ => none
  | jd + 1, a0, a1 =>
    Option.bind (f_X7_misplaced a0) (fun u1 =>
      if u1 = 0 then
        some 1
      else
        if a1 ≤ 0 then
          some 0
        else
          if u1 ≤ ((2 : Int32) * a1) then
            Option.bind (f_X7_firstMisplaced a0) (fun u3 =>
              Option.bind (f_X7_canSort_L32 (f_X7_canSort jd) u3 a0 a1 jFU 0) (fun o9 => Sum.elim (fun r => some r) (fun s10 =>
                some 0) o9))
          else
            some 0)
set_option maxHeartbeats 4000000 in
set_option maxRecDepth 100000 in
theorem k_X7_canSort_L32 {l : Launch} {D : va_G} {t : Nat → ClassId} {ad : Nat → Nat} {jd : Nat} (rec : Int32 → Int32 → Option (Int32)) (hrec : ∀  (a0 : Int32) (a1 : Int32) (u : Int32) (hf : rec a0 a1 = some u), cm l D (jT t) yX7_canSort cX7_canSort 6 (some FieldType.boolean) { frames := 2 + jd, cells := 0, slots := 0, locals := 44 + 25 * jd } [.int a0, .int a1] ([]) (fun v w => v = (some (.int u)) ∧ w = [])) (x3 : Int32) (x0 : Int32) (x1 : Int32) (x2 : Int32) {X : jX} (hX : jOK X l D (jT t) cX7_canSort RX7 (some FieldType.boolean) { frames := 2 + (jd + 1), cells := 0, slots := 0, locals := 44 + 25 * (jd + 1) } 6) {PP : Option Value → va_W → Prop} (hE : jEnd X PP 0 0) :
    ∀ (jn : Nat) (x4 : Int32) (u : (Int32) ⊕ (Int32)) (hf : f_X7_canSort_L32 rec x3 x0 x1 jn x4 = some u) (kx : ∀ s : Int32, u = .inr s → J X 0 0 ([]) 73 [(4, .int s), (3, .int x3), (2, .int x2), (0, .int x0), (1, .int x1)] []) (kr : ∀ r : Int32, u = .inl r → PP (some (.int r)) ([])), J X 0 0 ([]) 32 [(4, .int x4), (3, .int x3), (2, .int x2), (0, .int x0), (1, .int x1)] [] := by
  intro jn
  induction jn with
  | zero => intro x4 u hf; cases (show (none : Option ((Int32) ⊕ (Int32))) = some u from hf)
  | succ jn ih =>
    intro x4 u hf kx kr
    unfold f_X7_canSort_L32 at hf
    refine j_iload hX dX7_canSort_32 0 rfl ?_
    refine j_bipush hX 6 dX7_canSort_34 (by decide) ?_
    refine j_icmp_ge hX 73 dX7_canSort_36 (by decide) hf (fun c36 hf => ?_) (fun c36 hf => ?_)
    · cases hf
      exact kx _ rfl
    · refine j_iload_n hX dX7_canSort_39 rfl 3 rfl ?_
      refine j_iload_n hX dX7_canSort_40 rfl 1 rfl ?_
      refine j_iload hX dX7_canSort_41 0 rfl ?_
      obtain ⟨u5, h6, hf⟩ := jbind hf
      refine j_callS (st := []) hX (k_X7_swapped (l := l) (D := D) (t := t) (ad := ad)  x0 x3 x4 u5 h6) q2004 q572 q27 q573 (n9 := 3) rfl ⟨by decide +kernel, ⟨by show 1 + 1 ≤ 2 + (jd + 1); omega, by show 8 + (4 + 11) + 21 ≤ 44 + 25 * (jd + 1); omega⟩⟩ dX7_canSort_43 (Nat.le_of_ble_eq_true rfl) ⟨Nat.le_refl _, Nat.le_refl _⟩ (fun w : va_W => w ++ ([])) (jFr_r ([])) rfl rfl (fun v w hvw => ?_)
      obtain ⟨rfl, rfl⟩ := hvw
      change J X 0 0 ([]) 46 [(4, .int x4), (3, .int x3), (2, .int x2), (0, .int x0), (1, .int x1)] [.int u5]
      refine j_istore hX [(5, .int u5), (4, .int x4), (3, .int x3), (2, .int x2), (0, .int x0), (1, .int x1)] dX7_canSort_46 (by decide) rfl ?_
      refine j_iload hX dX7_canSort_48 0 rfl ?_
      refine j_iload_n hX dX7_canSort_50 rfl 4 rfl ?_
      refine j_icmp_eq hX 67 dX7_canSort_51 (by decide) hf (fun c51 hf => ?_) (fun c51 hf => ?_)
      · refine j_iinc hX (x4 + 1) [(4, .int (x4 + 1)), (5, .int u5), (3, .int x3), (2, .int x2), (0, .int x0), (1, .int x1)] dX7_canSort_67 1 rfl rfl (by decide) rfl ?_
        refine j_goto hX 32 dX7_canSort_70 (by decide) ?_
        refine j_sub hX [(4, .int (x4 + 1)), (3, .int x3), (2, .int x2), (0, .int x0), (1, .int x1)] [0, 2, 3, 4, 5] rfl ?_
        exact ih (x4 + 1) u hf kx kr
      · refine j_iload hX dX7_canSort_54 0 rfl ?_
        refine j_iload_n hX dX7_canSort_56 rfl 5 rfl ?_
        refine j_iconst hX 1 dX7_canSort_57 (by decide) ?_
        refine j_isub hX dX7_canSort_58 ?_
        obtain ⟨u7, h8, hf⟩ := jbind hf
        refine j_callS (st := []) hX (hrec  u5 (x1 - 1) u7 h8) q559 q560 q27 q561 (n9 := 2) rfl ⟨by decide +kernel, ⟨by show 2 + jd + 1 ≤ 2 + (jd + 1); omega, by show 8 + (6 + 11) + (44 + 25 * jd) ≤ 44 + 25 * (jd + 1); omega⟩⟩ dX7_canSort_59 (Nat.le_of_ble_eq_true rfl) ⟨Nat.le_refl _, Nat.le_refl _⟩ (fun w : va_W => w ++ ([])) (jFr_r ([])) rfl rfl (fun v w hvw => ?_)
        obtain ⟨rfl, rfl⟩ := hvw
        change J X 0 0 ([]) 62 [(5, .int u5), (4, .int x4), (3, .int x3), (2, .int x2), (0, .int x0), (1, .int x1)] [.int u7]
        refine j_if_eq hX 67 dX7_canSort_62 (by decide) hf (fun c62 hf => ?_) (fun c62 hf => ?_)
        · refine j_iinc hX (x4 + 1) [(4, .int (x4 + 1)), (5, .int u5), (3, .int x3), (2, .int x2), (0, .int x0), (1, .int x1)] dX7_canSort_67 1 rfl rfl (by decide) rfl ?_
          refine j_goto hX 32 dX7_canSort_70 (by decide) ?_
          refine j_sub hX [(4, .int (x4 + 1)), (3, .int x3), (2, .int x2), (0, .int x0), (1, .int x1)] [0, 2, 3, 4, 5] rfl ?_
          exact ih (x4 + 1) u hf kx kr
        · refine j_iconst hX 1 dX7_canSort_65 (by decide) ?_
          cases hf
          exact j_zret hX hE rfl dX7_canSort_66 (Nat.le_refl _) (Nat.le_refl _) (kr _ rfl)
set_option maxHeartbeats 4000000 in
set_option maxRecDepth 100000 in
theorem k_X7_canSort {l : Launch} {D : va_G} {t : Nat → ClassId} {ad : Nat → Nat} : ∀ (jd : Nat)  (a0 : Int32) (a1 : Int32) (u : Int32) (hf : f_X7_canSort jd a0 a1 = some u), cm l D (jT t) yX7_canSort cX7_canSort 6 (some FieldType.boolean) { frames := 2 + jd, cells := 0, slots := 0, locals := 44 + 25 * jd } [.int a0, .int a1] ([]) (fun v w => v = (some (.int u)) ∧ w = []) := by
  intro jd
  induction jd with
  | zero => intro a0 a1 u hf; cases (show (none : Option (Int32)) = some u from hf)
  | succ jd hrec =>
    intro a0 a1 u hf
    refine cm_of RX7 rfl (by decide +kernel) (Nat.le_of_ble_eq_true rfl) (fun X hX hE => ?_)
    change J X 0 0 ([]) 0 [(0, .int a0), (1, .int a1)] []
    unfold f_X7_canSort at hf
    refine j_iload_n hX dX7_canSort_0 rfl 0 rfl ?_
    obtain ⟨u1, h2, hf⟩ := jbind hf
    refine j_callS (st := []) hX (k_X7_misplaced (l := l) (D := D) (t := t) (ad := ad)  a0 u1 h2) q562 q563 q27 q564 (n9 := 1) rfl ⟨by decide +kernel, ⟨by show 1 + 1 ≤ 2 + (jd + 1); omega, by show 8 + (3 + 11) + 21 ≤ 44 + 25 * (jd + 1); omega⟩⟩ dX7_canSort_1 (Nat.le_of_ble_eq_true rfl) ⟨Nat.le_refl _, Nat.le_refl _⟩ (fun w : va_W => w ++ ([])) (jFr_r ([])) rfl rfl (fun v w hvw => ?_)
    obtain ⟨rfl, rfl⟩ := hvw
    change J X 0 0 ([]) 4 [(0, .int a0), (1, .int a1)] [.int u1]
    refine j_istore_n hX [(2, .int u1), (0, .int a0), (1, .int a1)] dX7_canSort_4 rfl (by decide) rfl ?_
    refine j_iload_n hX dX7_canSort_5 rfl 0 rfl ?_
    refine j_if_ne hX 11 dX7_canSort_6 (by decide) hf (fun c6 hf => ?_) (fun c6 hf => ?_)
    · refine j_iload_n hX dX7_canSort_11 rfl 2 rfl ?_
      refine j_if_le hX 22 dX7_canSort_12 (by decide) hf (fun c12 hf => ?_) (fun c12 hf => ?_)
      · refine j_iconst hX 0 dX7_canSort_22 (by decide) ?_
        cases hf
        exact j_zret hX hE rfl dX7_canSort_23 (Nat.le_refl _) (Nat.le_refl _) ⟨rfl, rfl⟩
      · refine j_iload_n hX dX7_canSort_15 rfl 0 rfl ?_
        refine j_iconst hX 2 dX7_canSort_16 (by decide) ?_
        refine j_iload_n hX dX7_canSort_17 rfl 2 rfl ?_
        refine j_imul hX dX7_canSort_18 ?_
        refine j_icmp_le hX 24 dX7_canSort_19 (by decide) hf (fun c19 hf => ?_) (fun c19 hf => ?_)
        · refine j_iload_n hX dX7_canSort_24 rfl 1 rfl ?_
          obtain ⟨u3, h4, hf⟩ := jbind hf
          refine j_callS (st := []) hX (k_X7_firstMisplaced (l := l) (D := D) (t := t) (ad := ad)  a0 u3 h4) q571 q2002 q27 q2003 (n9 := 1) rfl ⟨by decide +kernel, ⟨by show 1 + 1 ≤ 2 + (jd + 1); omega, by show 8 + (2 + 11) + 21 ≤ 44 + 25 * (jd + 1); omega⟩⟩ dX7_canSort_25 (Nat.le_of_ble_eq_true rfl) ⟨Nat.le_refl _, Nat.le_refl _⟩ (fun w : va_W => w ++ ([])) (jFr_r ([])) rfl rfl (fun v w hvw => ?_)
          obtain ⟨rfl, rfl⟩ := hvw
          change J X 0 0 ([]) 28 [(2, .int u1), (0, .int a0), (1, .int a1)] [.int u3]
          refine j_istore_n hX [(3, .int u3), (2, .int u1), (0, .int a0), (1, .int a1)] dX7_canSort_28 rfl (by decide) rfl ?_
          refine j_iconst hX 0 dX7_canSort_29 (by decide) ?_
          refine j_istore hX [(4, .int 0), (3, .int u3), (2, .int u1), (0, .int a0), (1, .int a1)] dX7_canSort_30 (by decide) rfl ?_
          obtain ⟨o9, h11, hf⟩ := jbind hf
          refine k_X7_canSort_L32 (ad := ad) (f_X7_canSort jd) hrec u3 a0 a1 u1 hX hE jFU 0 o9 h11 (fun s10 es10 => ?_) (fun r er => ?_)
          · subst es10
            have hf := jsum_r hf
            refine j_iconst hX 0 dX7_canSort_73 (by decide) ?_
            cases hf
            exact j_zret hX hE rfl dX7_canSort_74 (Nat.le_refl _) (Nat.le_refl _) ⟨rfl, rfl⟩
          · subst er
            cases hf
            exact ⟨rfl, rfl⟩
        · refine j_iconst hX 0 dX7_canSort_22 (by decide) ?_
          cases hf
          exact j_zret hX hE rfl dX7_canSort_23 (Nat.le_refl _) (Nat.le_refl _) ⟨rfl, rfl⟩
    · refine j_iconst hX 1 dX7_canSort_9 (by decide) ?_
      cases hf
      exact j_zret hX hE rfl dX7_canSort_10 (Nat.le_refl _) (Nat.le_refl _) ⟨rfl, rfl⟩
-- HammerDepot$Sorting leastSwaps (I)I
def f_X7_leastSwaps_L2 (x0 : Int32) : Nat → Int32 → Option ((Int32) ⊕ (Int32))
  | 0, _ => none
  | jn + 1, x1 =>
    if 6 ≤ x1 then
      some (.inr x1)
    else
      Option.bind (f_X7_canSort 16 x0 x1) (fun u1 =>
        if u1 = 0 then
          f_X7_leastSwaps_L2 x0 jn (x1 + 1)
        else
          some (.inl x1))
def f_X7_leastSwaps (a0 : Int32) : Option (Int32) :=
  Option.bind (f_X7_leastSwaps_L2 a0 jFU 0) (fun o3 => Sum.elim (fun r => some r) (fun s4 =>
    some 6) o3)
set_option maxHeartbeats 4000000 in
set_option maxRecDepth 100000 in
theorem k_X7_leastSwaps_L2 {l : Launch} {D : va_G} {t : Nat → ClassId} {ad : Nat → Nat} (x0 : Int32)  {X : jX} (hX : jOK X l D (jT t) cX7_leastSwaps RX7 (some FieldType.int) { frames := 19, cells := 0, slots := 0, locals := 469 } 2) {PP : Option Value → va_W → Prop} (hE : jEnd X PP 0 0) :
    ∀ (jn : Nat) (x1 : Int32) (u : (Int32) ⊕ (Int32)) (hf : f_X7_leastSwaps_L2 x0 jn x1 = some u) (kx : ∀ s : Int32, u = .inr s → J X 0 0 ([]) 24 [(1, .int s), (0, .int x0)] []) (kr : ∀ r : Int32, u = .inl r → PP (some (.int r)) ([])), J X 0 0 ([]) 2 [(1, .int x1), (0, .int x0)] [] := by
  intro jn
  induction jn with
  | zero => intro x1 u hf; cases (show (none : Option ((Int32) ⊕ (Int32))) = some u from hf)
  | succ jn ih =>
    intro x1 u hf kx kr
    unfold f_X7_leastSwaps_L2 at hf
    refine j_iload_n hX dX7_leastSwaps_2 rfl 0 rfl ?_
    refine j_bipush hX 6 dX7_leastSwaps_3 (by decide) ?_
    refine j_icmp_ge hX 24 dX7_leastSwaps_5 (by decide) hf (fun c5 hf => ?_) (fun c5 hf => ?_)
    · cases hf
      exact kx _ rfl
    · refine j_iload_n hX dX7_leastSwaps_8 rfl 1 rfl ?_
      refine j_iload_n hX dX7_leastSwaps_9 rfl 0 rfl ?_
      obtain ⟨u1, h2, hf⟩ := jbind hf
      refine j_callS (st := []) hX (k_X7_canSort (l := l) (D := D) (t := t) (ad := ad) 16  x0 x1 u1 h2) q559 q560 q27 q561 (n9 := 2) rfl ⟨by decide +kernel, by decide +kernel⟩ dX7_leastSwaps_10 (Nat.le_of_ble_eq_true rfl) ⟨Nat.le_refl _, Nat.le_refl _⟩ (fun w : va_W => w ++ ([])) (jFr_r ([])) rfl rfl (fun v w hvw => ?_)
      obtain ⟨rfl, rfl⟩ := hvw
      change J X 0 0 ([]) 13 [(1, .int x1), (0, .int x0)] [.int u1]
      refine j_if_eq hX 18 dX7_leastSwaps_13 (by decide) hf (fun c13 hf => ?_) (fun c13 hf => ?_)
      · refine j_iinc hX (x1 + 1) [(1, .int (x1 + 1)), (0, .int x0)] dX7_leastSwaps_18 0 rfl rfl (by decide) rfl ?_
        refine j_goto hX 2 dX7_leastSwaps_21 (by decide) ?_
        exact ih (x1 + 1) u hf kx kr
      · refine j_iload_n hX dX7_leastSwaps_16 rfl 0 rfl ?_
        cases hf
        exact j_iret hX hE dX7_leastSwaps_17 (Nat.le_refl _) (Nat.le_refl _) (kr _ rfl)
set_option maxHeartbeats 4000000 in
set_option maxRecDepth 100000 in
theorem k_X7_leastSwaps {l : Launch} {D : va_G} {t : Nat → ClassId} {ad : Nat → Nat}  (a0 : Int32) (u : Int32) (hf : f_X7_leastSwaps a0 = some u) : cm l D (jT t) yX7_leastSwaps cX7_leastSwaps 2 (some FieldType.int) { frames := 19, cells := 0, slots := 0, locals := 469 } [.int a0] ([]) (fun v w => v = (some (.int u)) ∧ w = []) := by
  refine cm_of RX7 rfl (by decide +kernel) (Nat.le_of_ble_eq_true rfl) (fun X hX hE => ?_)
  change J X 0 0 ([]) 0 [(0, .int a0)] []
  unfold f_X7_leastSwaps at hf
  refine j_iconst hX 0 dX7_leastSwaps_0 (by decide) ?_
  refine j_istore_n hX [(1, .int 0), (0, .int a0)] dX7_leastSwaps_1 rfl (by decide) rfl ?_
  obtain ⟨o3, h5, hf⟩ := jbind hf
  refine k_X7_leastSwaps_L2 (ad := ad) a0  hX hE jFU 0 o3 h5 (fun s4 es4 => ?_) (fun r er => ?_)
  · subst es4
    have hf := jsum_r hf
    refine j_bipush hX 6 dX7_leastSwaps_24 (by decide) ?_
    cases hf
    exact j_iret hX hE dX7_leastSwaps_26 (Nat.le_refl _) (Nat.le_refl _) ⟨rfl, rfl⟩
  · subst er
    cases hf
    exact ⟨rfl, rfl⟩
-- HammerDepot$Sorting closedCycleFrom (II)I
def f_X7_closedCycleFrom_L7 (x0 : Int32) (x1 : Int32) : Nat → Int32 → Int32 → Int32 → Option ((Int32) ⊕ (Int32 × Int32 × Int32))
  | 0, _, _, _ => none
  | jn + 1, x4, x3, x2 =>
    if 6 ≤ x4 then
      some (.inr (x4, x3, x2))
    else
      Option.bind (f_X7_contentAt x0 x3) (fun u1 =>
        if u1 = 0 then
          some (.inl 0)
        else
          if (u1 - 1) = x1 then
            some (.inl (x2 ||| ((1 : Int32) <<< (x3 &&& 31))))
          else
            f_X7_closedCycleFrom_L7 x0 x1 jn (x4 + 1) (u1 - 1) (x2 ||| ((1 : Int32) <<< (x3 &&& 31))))
def f_X7_closedCycleFrom (a0 : Int32) (a1 : Int32) : Option (Int32) :=
  Option.bind (f_X7_closedCycleFrom_L7 a0 a1 jFU 0 a1 0) (fun o3 => Sum.elim (fun r => some r) (fun s4 =>
    some 0) o3)
set_option maxHeartbeats 4000000 in
set_option maxRecDepth 100000 in
theorem k_X7_closedCycleFrom_L7 {l : Launch} {D : va_G} {t : Nat → ClassId} {ad : Nat → Nat} (x0 : Int32) (x1 : Int32)  {X : jX} (hX : jOK X l D (jT t) cX7_closedCycleFrom RX7 (some FieldType.int) { frames := 1, cells := 0, slots := 0, locals := 21 } 6) {PP : Option Value → va_W → Prop} (hE : jEnd X PP 0 0) :
    ∀ (jn : Nat) (x4 : Int32) (x3 : Int32) (x2 : Int32) (u : (Int32) ⊕ (Int32 × Int32 × Int32)) (hf : f_X7_closedCycleFrom_L7 x0 x1 jn x4 x3 x2 = some u) (kx : ∀ s : Int32 × Int32 × Int32, u = .inr s → J X 0 0 ([]) 52 [(4, .int s.1), (3, .int s.2.1), (2, .int s.2.2), (0, .int x0), (1, .int x1)] []) (kr : ∀ r : Int32, u = .inl r → PP (some (.int r)) ([])), J X 0 0 ([]) 7 [(4, .int x4), (3, .int x3), (2, .int x2), (0, .int x0), (1, .int x1)] [] := by
  intro jn
  induction jn with
  | zero => intro x4 x3 x2 u hf; cases (show (none : Option ((Int32) ⊕ (Int32 × Int32 × Int32))) = some u from hf)
  | succ jn ih =>
    intro x4 x3 x2 u hf kx kr
    unfold f_X7_closedCycleFrom_L7 at hf
    refine j_iload hX dX7_closedCycleFrom_7 0 rfl ?_
    refine j_bipush hX 6 dX7_closedCycleFrom_9 (by decide) ?_
    refine j_icmp_ge hX 52 dX7_closedCycleFrom_11 (by decide) hf (fun c11 hf => ?_) (fun c11 hf => ?_)
    · cases hf
      exact kx _ rfl
    · refine j_iload_n hX dX7_closedCycleFrom_14 rfl 2 rfl ?_
      refine j_iconst hX 1 dX7_closedCycleFrom_15 (by decide) ?_
      refine j_iload_n hX dX7_closedCycleFrom_16 rfl 1 rfl ?_
      refine j_ishl hX dX7_closedCycleFrom_17 ?_
      refine j_ior hX dX7_closedCycleFrom_18 ?_
      refine j_istore_n hX [(2, .int (x2 ||| ((1 : Int32) <<< (x3 &&& 31)))), (4, .int x4), (3, .int x3), (0, .int x0), (1, .int x1)] dX7_closedCycleFrom_19 rfl (by decide) rfl ?_
      refine j_iload_n hX dX7_closedCycleFrom_20 rfl 3 rfl ?_
      refine j_iload_n hX dX7_closedCycleFrom_21 rfl 2 rfl ?_
      obtain ⟨u1, h2, hf⟩ := jbind hf
      refine j_callS (st := []) hX (k_X7_contentAt (l := l) (D := D) (t := t) (ad := ad)  x0 x3 u1 h2) q565 q566 q27 q567 (n9 := 2) rfl ⟨by decide +kernel, by decide +kernel⟩ dX7_closedCycleFrom_22 (Nat.le_of_ble_eq_true rfl) ⟨Nat.le_refl _, Nat.le_refl _⟩ (fun w : va_W => w ++ ([])) (jFr_r ([])) rfl rfl (fun v w hvw => ?_)
      obtain ⟨rfl, rfl⟩ := hvw
      change J X 0 0 ([]) 25 [(2, .int (x2 ||| ((1 : Int32) <<< (x3 &&& 31)))), (4, .int x4), (3, .int x3), (0, .int x0), (1, .int x1)] [.int u1]
      refine j_istore hX [(5, .int u1), (2, .int (x2 ||| ((1 : Int32) <<< (x3 &&& 31)))), (4, .int x4), (3, .int x3), (0, .int x0), (1, .int x1)] dX7_closedCycleFrom_25 (by decide) rfl ?_
      refine j_iload hX dX7_closedCycleFrom_27 0 rfl ?_
      refine j_if_ne hX 34 dX7_closedCycleFrom_29 (by decide) hf (fun c29 hf => ?_) (fun c29 hf => ?_)
      · refine j_iload hX dX7_closedCycleFrom_34 0 rfl ?_
        refine j_iconst hX 1 dX7_closedCycleFrom_36 (by decide) ?_
        refine j_isub hX dX7_closedCycleFrom_37 ?_
        refine j_istore_n hX [(3, .int (u1 - 1)), (5, .int u1), (2, .int (x2 ||| ((1 : Int32) <<< (x3 &&& 31)))), (4, .int x4), (0, .int x0), (1, .int x1)] dX7_closedCycleFrom_38 rfl (by decide) rfl ?_
        refine j_iload_n hX dX7_closedCycleFrom_39 rfl 0 rfl ?_
        refine j_iload_n hX dX7_closedCycleFrom_40 rfl 5 rfl ?_
        refine j_icmp_ne hX 46 dX7_closedCycleFrom_41 (by decide) hf (fun c41 hf => ?_) (fun c41 hf => ?_)
        · refine j_iinc hX (x4 + 1) [(4, .int (x4 + 1)), (3, .int (u1 - 1)), (5, .int u1), (2, .int (x2 ||| ((1 : Int32) <<< (x3 &&& 31)))), (0, .int x0), (1, .int x1)] dX7_closedCycleFrom_46 3 rfl rfl (by decide) rfl ?_
          refine j_goto hX 7 dX7_closedCycleFrom_49 (by decide) ?_
          refine j_sub hX [(4, .int (x4 + 1)), (3, .int (u1 - 1)), (2, .int (x2 ||| ((1 : Int32) <<< (x3 &&& 31)))), (0, .int x0), (1, .int x1)] [0, 1, 3, 4, 5] rfl ?_
          exact ih (x4 + 1) (u1 - 1) (x2 ||| ((1 : Int32) <<< (x3 &&& 31))) u hf kx kr
        · refine j_iload_n hX dX7_closedCycleFrom_44 rfl 2 rfl ?_
          cases hf
          exact j_iret hX hE dX7_closedCycleFrom_45 (Nat.le_refl _) (Nat.le_refl _) (kr _ rfl)
      · refine j_iconst hX 0 dX7_closedCycleFrom_32 (by decide) ?_
        cases hf
        exact j_iret hX hE dX7_closedCycleFrom_33 (Nat.le_refl _) (Nat.le_refl _) (kr _ rfl)
set_option maxHeartbeats 4000000 in
set_option maxRecDepth 100000 in
theorem k_X7_closedCycleFrom {l : Launch} {D : va_G} {t : Nat → ClassId} {ad : Nat → Nat}  (a0 : Int32) (a1 : Int32) (u : Int32) (hf : f_X7_closedCycleFrom a0 a1 = some u) : cm l D (jT t) yX7_closedCycleFrom cX7_closedCycleFrom 6 (some FieldType.int) { frames := 1, cells := 0, slots := 0, locals := 21 } [.int a0, .int a1] ([]) (fun v w => v = (some (.int u)) ∧ w = []) := by
  refine cm_of RX7 rfl (by decide +kernel) (Nat.le_of_ble_eq_true rfl) (fun X hX hE => ?_)
  change J X 0 0 ([]) 0 [(0, .int a0), (1, .int a1)] []
  unfold f_X7_closedCycleFrom at hf
  refine j_iconst hX 0 dX7_closedCycleFrom_0 (by decide) ?_
  refine j_istore_n hX [(2, .int 0), (0, .int a0), (1, .int a1)] dX7_closedCycleFrom_1 rfl (by decide) rfl ?_
  refine j_iload_n hX dX7_closedCycleFrom_2 rfl 2 rfl ?_
  refine j_istore_n hX [(3, .int a1), (2, .int 0), (0, .int a0), (1, .int a1)] dX7_closedCycleFrom_3 rfl (by decide) rfl ?_
  refine j_iconst hX 0 dX7_closedCycleFrom_4 (by decide) ?_
  refine j_istore hX [(4, .int 0), (3, .int a1), (2, .int 0), (0, .int a0), (1, .int a1)] dX7_closedCycleFrom_5 (by decide) rfl ?_
  obtain ⟨o3, h5, hf⟩ := jbind hf
  refine k_X7_closedCycleFrom_L7 (ad := ad) a0 a1  hX hE jFU 0 a1 0 o3 h5 (fun s4 es4 => ?_) (fun r er => ?_)
  · subst es4
    have hf := jsum_r hf
    refine j_iconst hX 0 dX7_closedCycleFrom_52 (by decide) ?_
    cases hf
    exact j_iret hX hE dX7_closedCycleFrom_53 (Nat.le_refl _) (Nat.le_refl _) ⟨rfl, rfl⟩
  · subst er
    cases hf
    exact ⟨rfl, rfl⟩
-- HammerDepot$Sorting swapsByCycles (I)I
def f_X7_swapsByCycles_L6 (x0 : Int32) : Nat → Int32 → Int32 → Int32 → Option (Int32 × Int32 × Int32)
  | 0, _, _, _ => none
  | jn + 1, x3, x2, x1 =>
    if 6 ≤ x3 then
      some (x3, x2, x1)
    else
      Option.bind (f_X7_contentAt x0 x3) (fun u1 =>
        Option.bind (f_X7_isMisplaced u1 x3) (fun u3 =>
          if u3 = 0 then
            f_X7_swapsByCycles_L6 x0 jn (x3 + 1) x2 x1
          else
            if (x2 &&& ((1 : Int32) <<< (x3 &&& 31))) = 0 then
              Option.bind (f_X7_closedCycleFrom x0 x3) (fun u5 =>
                if u5 = 0 then
                  f_X7_swapsByCycles_L6 x0 jn (x3 + 1) (x2 ||| u5) x1
                else
                  f_X7_swapsByCycles_L6 x0 jn (x3 + 1) (x2 ||| u5) (x1 + 1))
            else
              f_X7_swapsByCycles_L6 x0 jn (x3 + 1) x2 x1))
def f_X7_swapsByCycles (a0 : Int32) : Option (Int32) :=
  Option.bind (f_X7_swapsByCycles_L6 a0 jFU 0 0 0) (fun s8 =>
    Option.bind (f_X7_misplaced a0) (fun u10 =>
      some (u10 - s8.2.2)))
set_option maxHeartbeats 4000000 in
set_option maxRecDepth 100000 in
theorem k_X7_swapsByCycles_L6 {l : Launch} {D : va_G} {t : Nat → ClassId} {ad : Nat → Nat} (x0 : Int32)  {X : jX} (hX : jOK X l D (jT t) cX7_swapsByCycles RX7 (some FieldType.int) { frames := 2, cells := 0, slots := 0, locals := 46 } 5) :
    ∀ (jn : Nat) (x3 : Int32) (x2 : Int32) (x1 : Int32) (u : Int32 × Int32 × Int32) (hf : f_X7_swapsByCycles_L6 x0 jn x3 x2 x1 = some u) (kx : ∀ s : Int32 × Int32 × Int32, u = s → J X 0 0 ([]) 58 [(3, .int s.1), (2, .int s.2.1), (1, .int s.2.2), (0, .int x0)] []), J X 0 0 ([]) 6 [(3, .int x3), (2, .int x2), (1, .int x1), (0, .int x0)] [] := by
  intro jn
  induction jn with
  | zero => intro x3 x2 x1 u hf; cases (show (none : Option (Int32 × Int32 × Int32)) = some u from hf)
  | succ jn ih =>
    intro x3 x2 x1 u hf kx
    unfold f_X7_swapsByCycles_L6 at hf
    refine j_iload_n hX dX7_swapsByCycles_6 rfl 0 rfl ?_
    refine j_bipush hX 6 dX7_swapsByCycles_7 (by decide) ?_
    refine j_icmp_ge hX 58 dX7_swapsByCycles_9 (by decide) hf (fun c9 hf => ?_) (fun c9 hf => ?_)
    · cases hf
      exact kx _ rfl
    · refine j_iload_n hX dX7_swapsByCycles_12 rfl 3 rfl ?_
      refine j_iload_n hX dX7_swapsByCycles_13 rfl 0 rfl ?_
      obtain ⟨u1, h2, hf⟩ := jbind hf
      refine j_callS (st := []) hX (k_X7_contentAt (l := l) (D := D) (t := t) (ad := ad)  x0 x3 u1 h2) q565 q566 q27 q567 (n9 := 2) rfl ⟨by decide +kernel, by decide +kernel⟩ dX7_swapsByCycles_14 (Nat.le_of_ble_eq_true rfl) ⟨Nat.le_refl _, Nat.le_refl _⟩ (fun w : va_W => w ++ ([])) (jFr_r ([])) rfl rfl (fun v w hvw => ?_)
      obtain ⟨rfl, rfl⟩ := hvw
      change J X 0 0 ([]) 17 [(3, .int x3), (2, .int x2), (1, .int x1), (0, .int x0)] [.int u1]
      refine j_iload_n hX dX7_swapsByCycles_17 rfl 0 rfl ?_
      obtain ⟨u3, h4, hf⟩ := jbind hf
      refine j_callS (st := []) hX (k_X7_isMisplaced (l := l) (D := D) (t := t) (ad := ad)  u1 x3 u3 h4) q568 q569 q27 q570 (n9 := 2) rfl ⟨by decide +kernel, by decide +kernel⟩ dX7_swapsByCycles_18 (Nat.le_of_ble_eq_true rfl) ⟨Nat.le_refl _, Nat.le_refl _⟩ (fun w : va_W => w ++ ([])) (jFr_r ([])) rfl rfl (fun v w hvw => ?_)
      obtain ⟨rfl, rfl⟩ := hvw
      change J X 0 0 ([]) 21 [(3, .int x3), (2, .int x2), (1, .int x1), (0, .int x0)] [.int u3]
      refine j_if_eq hX 52 dX7_swapsByCycles_21 (by decide) hf (fun c21 hf => ?_) (fun c21 hf => ?_)
      · refine j_iinc hX (x3 + 1) [(3, .int (x3 + 1)), (2, .int x2), (1, .int x1), (0, .int x0)] dX7_swapsByCycles_52 0 rfl rfl (by decide) rfl ?_
        refine j_goto hX 6 dX7_swapsByCycles_55 (by decide) ?_
        exact ih (x3 + 1) x2 x1 u hf kx
      · refine j_iload_n hX dX7_swapsByCycles_24 rfl 1 rfl ?_
        refine j_iconst hX 1 dX7_swapsByCycles_25 (by decide) ?_
        refine j_iload_n hX dX7_swapsByCycles_26 rfl 0 rfl ?_
        refine j_ishl hX dX7_swapsByCycles_27 ?_
        refine j_iand hX dX7_swapsByCycles_28 ?_
        refine j_if_ne hX 52 dX7_swapsByCycles_29 (by decide) hf (fun c29 hf => ?_) (fun c29 hf => ?_)
        · refine j_iinc hX (x3 + 1) [(3, .int (x3 + 1)), (2, .int x2), (1, .int x1), (0, .int x0)] dX7_swapsByCycles_52 0 rfl rfl (by decide) rfl ?_
          refine j_goto hX 6 dX7_swapsByCycles_55 (by decide) ?_
          exact ih (x3 + 1) x2 x1 u hf kx
        · refine j_iload_n hX dX7_swapsByCycles_32 rfl 3 rfl ?_
          refine j_iload_n hX dX7_swapsByCycles_33 rfl 0 rfl ?_
          obtain ⟨u5, h6, hf⟩ := jbind hf
          refine j_callS (st := []) hX (k_X7_closedCycleFrom (l := l) (D := D) (t := t) (ad := ad)  x0 x3 u5 h6) q2005 q578 q27 q579 (n9 := 2) rfl ⟨by decide +kernel, by decide +kernel⟩ dX7_swapsByCycles_34 (Nat.le_of_ble_eq_true rfl) ⟨Nat.le_refl _, Nat.le_refl _⟩ (fun w : va_W => w ++ ([])) (jFr_r ([])) rfl rfl (fun v w hvw => ?_)
          obtain ⟨rfl, rfl⟩ := hvw
          change J X 0 0 ([]) 37 [(3, .int x3), (2, .int x2), (1, .int x1), (0, .int x0)] [.int u5]
          refine j_istore hX [(4, .int u5), (3, .int x3), (2, .int x2), (1, .int x1), (0, .int x0)] dX7_swapsByCycles_37 (by decide) rfl ?_
          refine j_iload hX dX7_swapsByCycles_39 0 rfl ?_
          refine j_if_eq hX 47 dX7_swapsByCycles_41 (by decide) hf (fun c41 hf => ?_) (fun c41 hf => ?_)
          · refine j_iload_n hX dX7_swapsByCycles_47 rfl 2 rfl ?_
            refine j_iload hX dX7_swapsByCycles_48 0 rfl ?_
            refine j_ior hX dX7_swapsByCycles_50 ?_
            refine j_istore_n hX [(2, .int (x2 ||| u5)), (4, .int u5), (3, .int x3), (1, .int x1), (0, .int x0)] dX7_swapsByCycles_51 rfl (by decide) rfl ?_
            refine j_iinc hX (x3 + 1) [(3, .int (x3 + 1)), (2, .int (x2 ||| u5)), (4, .int u5), (1, .int x1), (0, .int x0)] dX7_swapsByCycles_52 2 rfl rfl (by decide) rfl ?_
            refine j_goto hX 6 dX7_swapsByCycles_55 (by decide) ?_
            refine j_sub hX [(3, .int (x3 + 1)), (2, .int (x2 ||| u5)), (1, .int x1), (0, .int x0)] [0, 1, 3, 4] rfl ?_
            exact ih (x3 + 1) (x2 ||| u5) x1 u hf kx
          · refine j_iinc hX (x1 + 1) [(1, .int (x1 + 1)), (4, .int u5), (3, .int x3), (2, .int x2), (0, .int x0)] dX7_swapsByCycles_44 3 rfl rfl (by decide) rfl ?_
            refine j_iload_n hX dX7_swapsByCycles_47 rfl 3 rfl ?_
            refine j_iload hX dX7_swapsByCycles_48 1 rfl ?_
            refine j_ior hX dX7_swapsByCycles_50 ?_
            refine j_istore_n hX [(2, .int (x2 ||| u5)), (1, .int (x1 + 1)), (4, .int u5), (3, .int x3), (0, .int x0)] dX7_swapsByCycles_51 rfl (by decide) rfl ?_
            refine j_iinc hX (x3 + 1) [(3, .int (x3 + 1)), (2, .int (x2 ||| u5)), (1, .int (x1 + 1)), (4, .int u5), (0, .int x0)] dX7_swapsByCycles_52 3 rfl rfl (by decide) rfl ?_
            refine j_goto hX 6 dX7_swapsByCycles_55 (by decide) ?_
            refine j_sub hX [(3, .int (x3 + 1)), (2, .int (x2 ||| u5)), (1, .int (x1 + 1)), (0, .int x0)] [0, 1, 2, 4] rfl ?_
            exact ih (x3 + 1) (x2 ||| u5) (x1 + 1) u hf kx
set_option maxHeartbeats 4000000 in
set_option maxRecDepth 100000 in
theorem k_X7_swapsByCycles {l : Launch} {D : va_G} {t : Nat → ClassId} {ad : Nat → Nat}  (a0 : Int32) (u : Int32) (hf : f_X7_swapsByCycles a0 = some u) : cm l D (jT t) yX7_swapsByCycles cX7_swapsByCycles 5 (some FieldType.int) { frames := 2, cells := 0, slots := 0, locals := 46 } [.int a0] ([]) (fun v w => v = (some (.int u)) ∧ w = []) := by
  refine cm_of RX7 rfl (by decide +kernel) (Nat.le_of_ble_eq_true rfl) (fun X hX hE => ?_)
  change J X 0 0 ([]) 0 [(0, .int a0)] []
  unfold f_X7_swapsByCycles at hf
  refine j_iconst hX 0 dX7_swapsByCycles_0 (by decide) ?_
  refine j_istore_n hX [(1, .int 0), (0, .int a0)] dX7_swapsByCycles_1 rfl (by decide) rfl ?_
  refine j_iconst hX 0 dX7_swapsByCycles_2 (by decide) ?_
  refine j_istore_n hX [(2, .int 0), (1, .int 0), (0, .int a0)] dX7_swapsByCycles_3 rfl (by decide) rfl ?_
  refine j_iconst hX 0 dX7_swapsByCycles_4 (by decide) ?_
  refine j_istore_n hX [(3, .int 0), (2, .int 0), (1, .int 0), (0, .int a0)] dX7_swapsByCycles_5 rfl (by decide) rfl ?_
  obtain ⟨s8, h9, hf⟩ := jbind hf
  refine k_X7_swapsByCycles_L6 (ad := ad) a0  hX jFU 0 0 0 s8 h9 (fun s80 es8 => ?_)
  subst es8
  refine j_iload_n hX dX7_swapsByCycles_58 rfl 3 rfl ?_
  obtain ⟨u10, h11, hf⟩ := jbind hf
  refine j_callS (st := []) hX (k_X7_misplaced (l := l) (D := D) (t := t) (ad := ad)  a0 u10 h11) q562 q563 q27 q564 (n9 := 1) rfl ⟨by decide +kernel, by decide +kernel⟩ dX7_swapsByCycles_59 (Nat.le_of_ble_eq_true rfl) ⟨Nat.le_refl _, Nat.le_refl _⟩ (fun w : va_W => w ++ ([])) (jFr_r ([])) rfl rfl (fun v w hvw => ?_)
  obtain ⟨rfl, rfl⟩ := hvw
  change J X 0 0 ([]) 62 [(3, .int s8.1), (2, .int s8.2.1), (1, .int s8.2.2), (0, .int a0)] [.int u10]
  refine j_iload_n hX dX7_swapsByCycles_62 rfl 2 rfl ?_
  refine j_isub hX dX7_swapsByCycles_63 ?_
  cases hf
  exact j_iret hX hE dX7_swapsByCycles_64 (Nat.le_refl _) (Nat.le_refl _) ⟨rfl, rfl⟩

-- HammerDepot$Script isFull ()Z
def f_X6_isFull (p_length : Int32) : Option (Int32) :=
  if p_length < 60 then
    some 0
  else
    some 1
set_option maxHeartbeats 4000000 in
set_option maxRecDepth 100000 in
theorem k_X6_isFull {l : Launch} {D : va_G} {t : Nat → ClassId} {ad : Nat → Nat} {o : Nat} (p_text : Nat → Int32) (p_length : Int32) (p_at : Int32) (p_count : Int32) (p_kinds : Nat → Int32) (p_arguments : Nat → Int32) (p_argumentCount : Int32)  (u : Int32) (hf : f_X6_isFull p_length = some u) : cm l D (jT t) yX6_isFull cX6_isFull 1 (some FieldType.boolean) { frames := 0, cells := 0, slots := 0, locals := 0 } [.ref (ad o)] (wP t ad o p_text p_length p_at p_count p_kinds p_arguments p_argumentCount) (fun v w => v = (some (.int u)) ∧ w = wP t ad o p_text p_length p_at p_count p_kinds p_arguments p_argumentCount) := by
  refine cm_of RX6 rfl (by decide +kernel) (Nat.le_of_ble_eq_true rfl) (fun X hX hE => ?_)
  change J X 0 0 (wP t ad o p_text p_length p_at p_count p_kinds p_arguments p_argumentCount) 0 [(0, .ref (ad o))] []
  unfold f_X6_isFull at hf
  refine j_aload_n hX dX6_isFull_0 rfl 0 rfl ?_
  refine j_get hX dX6_isFull_1 inX6 1 q151 0 rfl rfl (by decide) rfl rfl ?_
  refine j_bipush hX 60 dX6_isFull_4 (by decide) ?_
  refine j_icmp_lt hX 13 dX6_isFull_6 (by decide) hf (fun c6 hf => ?_) (fun c6 hf => ?_)
  · refine j_iconst hX 0 dX6_isFull_13 (by decide) ?_
    cases hf
    exact j_zret hX hE rfl dX6_isFull_14 (Nat.le_refl _) (Nat.le_refl _) ⟨rfl, rfl⟩
  · refine j_iconst hX 1 dX6_isFull_9 (by decide) ?_
    refine j_goto hX 14 dX6_isFull_10 (by decide) ?_
    cases hf
    exact j_zret hX hE rfl dX6_isFull_14 (Nat.le_refl _) (Nat.le_refl _) ⟨rfl, rfl⟩
-- HammerDepot$Script append (C)I
def f_X6_append (p_text : Nat → Int32) (p_length : Int32) (a0 : Int32) : Option (Int32 × (Nat → Int32) × Int32) :=
  Option.bind (f_X6_isFull p_length) (fun u1 =>
    if u1 = 0 then
      if jin p_length 60 = true then
        some (p_length + 1, upd p_text (p_length).toNatClampNeg (vp_nar .char a0), p_length + 1)
      else none
    else
      some (p_length, p_text, p_length))
set_option maxHeartbeats 4000000 in
set_option maxRecDepth 100000 in
theorem k_X6_append {l : Launch} {D : va_G} {t : Nat → ClassId} {ad : Nat → Nat} {o : Nat} (p_text : Nat → Int32) (p_length : Int32) (p_at : Int32) (p_count : Int32) (p_kinds : Nat → Int32) (p_arguments : Nat → Int32) (p_argumentCount : Int32) (a0 : Int32) (u : Int32 × (Nat → Int32) × Int32) (hf : f_X6_append p_text p_length a0 = some u) : cm l D (jT t) yX6_append cX6_append 2 (some FieldType.int) { frames := 1, cells := 0, slots := 0, locals := 20 } [.ref (ad o), .int a0] (wP t ad o p_text p_length p_at p_count p_kinds p_arguments p_argumentCount) (fun v w => v = (some (.int u.1)) ∧ w = wP t ad o u.2.1 u.2.2 p_at p_count p_kinds p_arguments p_argumentCount) := by
  refine cm_of RX6 rfl (by decide +kernel) (Nat.le_of_ble_eq_true rfl) (fun X hX hE => ?_)
  change J X 0 0 (wP t ad o p_text p_length p_at p_count p_kinds p_arguments p_argumentCount) 0 [(0, .ref (ad o)), (1, .int a0)] []
  unfold f_X6_append at hf
  refine j_aload_n hX dX6_append_0 rfl 0 rfl ?_
  obtain ⟨u1, h2, hf⟩ := jbind hf
  refine j_callV (st := []) hX (k_X6_isFull (l := l) (D := D) (t := t) (ad := ad) (o := o) p_text p_length p_at p_count p_kinds p_arguments p_argumentCount  u1 h2) q1329 q1322 q1323 q10 q1324 (n9 := 0) rfl ⟨by decide +kernel, by decide +kernel⟩ 0 rfl rfl rfl dX6_append_1 (Nat.le_of_ble_eq_true rfl) ⟨Nat.le_refl _, Nat.le_refl _⟩ (fun w : va_W => w) jFr_id rfl rfl (fun v w hvw => ?_)
  obtain ⟨rfl, rfl⟩ := hvw
  change J X 0 0 (wP t ad o p_text p_length p_at p_count p_kinds p_arguments p_argumentCount) 4 [(0, .ref (ad o)), (1, .int a0)] [.int u1]
  refine j_if_ne hX 27 dX6_append_4 (by decide) hf (fun c4 hf => ?_) (fun c4 hf => ?_)
  · refine j_aload_n hX dX6_append_27 rfl 0 rfl ?_
    refine j_get hX dX6_append_28 inX6 1 q151 0 rfl rfl (by decide) rfl rfl ?_
    cases hf
    exact j_iret hX hE dX6_append_31 (Nat.le_refl _) (Nat.le_refl _) ⟨rfl, rfl⟩
  · refine j_aload_n hX dX6_append_7 rfl 0 rfl ?_
    refine j_get hX dX6_append_8 inX6 0 q150 0 rfl rfl (by decide) rfl rfl ?_
    refine j_aload_n hX dX6_append_11 rfl 0 rfl ?_
    refine j_get hX dX6_append_12 inX6 1 q151 0 rfl rfl (by decide) rfl rfl ?_
    refine j_iload_n hX dX6_append_15 rfl 1 rfl ?_
    refine j_cast hX (wP t ad o (upd p_text (p_length).toNatClampNeg (vp_nar .char a0)) p_length p_at p_count p_kinds p_arguments p_argumentCount) dX6_append_16 1 1 rfl rfl rfl hf (fun c16 hf => ?_)
    refine j_aload_n hX dX6_append_17 rfl 0 rfl ?_
    refine j_dup hX dX6_append_18 rfl ?_
    refine j_get hX dX6_append_19 inX6 1 q151 0 rfl rfl (by decide) rfl rfl ?_
    refine j_iconst hX 1 dX6_append_22 (by decide) ?_
    refine j_iadd hX dX6_append_23 ?_
    refine j_put hX (wP t ad o (upd p_text (p_length).toNatClampNeg (vp_nar .char a0)) (p_length + 1) p_at p_count p_kinds p_arguments p_argumentCount) tyX6 dX6_append_24 inX6 tyX6_ok nmX6 1 q151 0 rfl rfl (by decide) rfl rfl rfl rfl rfl (Nat.le_of_ble_eq_true rfl) rfl ?_
    refine j_aload_n hX dX6_append_27 rfl 0 rfl ?_
    refine j_get hX dX6_append_28 inX6 1 q151 0 rfl rfl (by decide) rfl rfl ?_
    cases hf
    exact j_iret hX hE dX6_append_31 (Nat.le_refl _) (Nat.le_refl _) ⟨rfl, rfl⟩
-- HammerDepot$Script clear ()V
def f_X6_clear (p_length : Int32) : Option (Int32) :=
  some 0
set_option maxHeartbeats 4000000 in
set_option maxRecDepth 100000 in
theorem k_X6_clear {l : Launch} {D : va_G} {t : Nat → ClassId} {ad : Nat → Nat} {o : Nat} (p_text : Nat → Int32) (p_length : Int32) (p_at : Int32) (p_count : Int32) (p_kinds : Nat → Int32) (p_arguments : Nat → Int32) (p_argumentCount : Int32)  (u : Int32) (hf : f_X6_clear p_length = some u) : cm l D (jT t) yX6_clear cX6_clear 1 none { frames := 0, cells := 0, slots := 0, locals := 0 } [.ref (ad o)] (wP t ad o p_text p_length p_at p_count p_kinds p_arguments p_argumentCount) (fun v w => v = none ∧ w = wP t ad o p_text u p_at p_count p_kinds p_arguments p_argumentCount) := by
  refine cm_of RX6 rfl (by decide +kernel) (Nat.le_of_ble_eq_true rfl) (fun X hX hE => ?_)
  change J X 0 0 (wP t ad o p_text p_length p_at p_count p_kinds p_arguments p_argumentCount) 0 [(0, .ref (ad o))] []
  unfold f_X6_clear at hf
  refine j_aload_n hX dX6_clear_0 rfl 0 rfl ?_
  refine j_iconst hX 0 dX6_clear_1 (by decide) ?_
  refine j_put hX (wP t ad o p_text 0 p_at p_count p_kinds p_arguments p_argumentCount) tyX6 dX6_clear_2 inX6 tyX6_ok nmX6 1 q151 0 rfl rfl (by decide) rfl rfl rfl rfl rfl (Nat.le_of_ble_eq_true rfl) rfl ?_
  cases hf
  exact j_vret hX hE dX6_clear_5 (Nat.le_refl _) (Nat.le_refl _) ⟨rfl, rfl⟩
-- HammerDepot$Script size ()I
def f_X6_size (p_count : Int32) : Option (Int32) :=
  some p_count
set_option maxHeartbeats 4000000 in
set_option maxRecDepth 100000 in
theorem k_X6_size {l : Launch} {D : va_G} {t : Nat → ClassId} {ad : Nat → Nat} {o : Nat} (p_text : Nat → Int32) (p_length : Int32) (p_at : Int32) (p_count : Int32) (p_kinds : Nat → Int32) (p_arguments : Nat → Int32) (p_argumentCount : Int32)  (u : Int32) (hf : f_X6_size p_count = some u) : cm l D (jT t) yX6_size cX6_size 1 (some FieldType.int) { frames := 0, cells := 0, slots := 0, locals := 0 } [.ref (ad o)] (wP t ad o p_text p_length p_at p_count p_kinds p_arguments p_argumentCount) (fun v w => v = (some (.int u)) ∧ w = wP t ad o p_text p_length p_at p_count p_kinds p_arguments p_argumentCount) := by
  refine cm_of RX6 rfl (by decide +kernel) (Nat.le_of_ble_eq_true rfl) (fun X hX hE => ?_)
  change J X 0 0 (wP t ad o p_text p_length p_at p_count p_kinds p_arguments p_argumentCount) 0 [(0, .ref (ad o))] []
  unfold f_X6_size at hf
  refine j_aload_n hX dX6_size_0 rfl 0 rfl ?_
  refine j_get hX dX6_size_1 inX6 3 q153 0 rfl rfl (by decide) rfl rfl ?_
  cases hf
  exact j_iret hX hE dX6_size_4 (Nat.le_refl _) (Nat.le_refl _) ⟨rfl, rfl⟩
-- HammerDepot$Script kindOf (I)I
def f_X6_kindOf (p_count : Int32) (p_kinds : Nat → Int32) (a0 : Int32) : Option (Int32) :=
  if a0 < 0 then
    some (-1)
  else
    if p_count ≤ a0 then
      some (-1)
    else
      if 15 ≤ a0 then
        some (-1)
      else
        if jin a0 15 = true then
          some (p_kinds (a0).toNatClampNeg)
        else none
set_option maxHeartbeats 4000000 in
set_option maxRecDepth 100000 in
theorem k_X6_kindOf {l : Launch} {D : va_G} {t : Nat → ClassId} {ad : Nat → Nat} {o : Nat} (p_text : Nat → Int32) (p_length : Int32) (p_at : Int32) (p_count : Int32) (p_kinds : Nat → Int32) (p_arguments : Nat → Int32) (p_argumentCount : Int32) (a0 : Int32) (u : Int32) (hf : f_X6_kindOf p_count p_kinds a0 = some u) : cm l D (jT t) yX6_kindOf cX6_kindOf 2 (some FieldType.int) { frames := 0, cells := 0, slots := 0, locals := 0 } [.ref (ad o), .int a0] (wP t ad o p_text p_length p_at p_count p_kinds p_arguments p_argumentCount) (fun v w => v = (some (.int u)) ∧ w = wP t ad o p_text p_length p_at p_count p_kinds p_arguments p_argumentCount) := by
  refine cm_of RX6 rfl (by decide +kernel) (Nat.le_of_ble_eq_true rfl) (fun X hX hE => ?_)
  change J X 0 0 (wP t ad o p_text p_length p_at p_count p_kinds p_arguments p_argumentCount) 0 [(0, .ref (ad o)), (1, .int a0)] []
  unfold f_X6_kindOf at hf
  refine j_iload_n hX dX6_kindOf_0 rfl 1 rfl ?_
  refine j_if_lt hX 27 dX6_kindOf_1 (by decide) hf (fun c1 hf => ?_) (fun c1 hf => ?_)
  · refine j_iconst hX (-1) dX6_kindOf_27 (by decide) ?_
    cases hf
    exact j_iret hX hE dX6_kindOf_28 (Nat.le_refl _) (Nat.le_refl _) ⟨rfl, rfl⟩
  · refine j_iload_n hX dX6_kindOf_4 rfl 1 rfl ?_
    refine j_aload_n hX dX6_kindOf_5 rfl 0 rfl ?_
    refine j_get hX dX6_kindOf_6 inX6 3 q153 0 rfl rfl (by decide) rfl rfl ?_
    refine j_icmp_ge hX 27 dX6_kindOf_9 (by decide) hf (fun c9 hf => ?_) (fun c9 hf => ?_)
    · refine j_iconst hX (-1) dX6_kindOf_27 (by decide) ?_
      cases hf
      exact j_iret hX hE dX6_kindOf_28 (Nat.le_refl _) (Nat.le_refl _) ⟨rfl, rfl⟩
    · refine j_iload_n hX dX6_kindOf_12 rfl 1 rfl ?_
      refine j_bipush hX 15 dX6_kindOf_13 (by decide) ?_
      refine j_icmp_ge hX 27 dX6_kindOf_15 (by decide) hf (fun c15 hf => ?_) (fun c15 hf => ?_)
      · refine j_iconst hX (-1) dX6_kindOf_27 (by decide) ?_
        cases hf
        exact j_iret hX hE dX6_kindOf_28 (Nat.le_refl _) (Nat.le_refl _) ⟨rfl, rfl⟩
      · refine j_aload_n hX dX6_kindOf_18 rfl 0 rfl ?_
        refine j_get hX dX6_kindOf_19 inX6 4 q154 0 rfl rfl (by decide) rfl rfl ?_
        refine j_iload_n hX dX6_kindOf_22 rfl 1 rfl ?_
        refine j_iald hX dX6_kindOf_23 2 0 rfl rfl hf (fun c23 hf => ?_)
        refine j_goto hX 28 dX6_kindOf_24 (by decide) ?_
        cases hf
        exact j_iret hX hE dX6_kindOf_28 (Nat.le_refl _) (Nat.le_refl _) ⟨rfl, rfl⟩
-- HammerDepot$Script argument (II)I
def f_X6_argument (p_count : Int32) (p_arguments : Nat → Int32) (a0 : Int32) (a1 : Int32) : Option (Int32) :=
  if a0 < 0 then
    some 0
  else
    if p_count ≤ a0 then
      some 0
    else
      if 15 ≤ a0 then
        some 0
      else
        if a1 < 0 then
          some 0
        else
          if 5 ≤ a1 then
            some 0
          else
            if jin ((a0 * 5) + a1) 75 = true then
              some (p_arguments ((a0 * 5) + a1).toNatClampNeg)
            else none
set_option maxHeartbeats 4000000 in
set_option maxRecDepth 100000 in
theorem k_X6_argument {l : Launch} {D : va_G} {t : Nat → ClassId} {ad : Nat → Nat} {o : Nat} (p_text : Nat → Int32) (p_length : Int32) (p_at : Int32) (p_count : Int32) (p_kinds : Nat → Int32) (p_arguments : Nat → Int32) (p_argumentCount : Int32) (a0 : Int32) (a1 : Int32) (u : Int32) (hf : f_X6_argument p_count p_arguments a0 a1 = some u) : cm l D (jT t) yX6_argument cX6_argument 4 (some FieldType.int) { frames := 0, cells := 0, slots := 0, locals := 0 } [.ref (ad o), .int a0, .int a1] (wP t ad o p_text p_length p_at p_count p_kinds p_arguments p_argumentCount) (fun v w => v = (some (.int u)) ∧ w = wP t ad o p_text p_length p_at p_count p_kinds p_arguments p_argumentCount) := by
  refine cm_of RX6 rfl (by decide +kernel) (Nat.le_of_ble_eq_true rfl) (fun X hX hE => ?_)
  change J X 0 0 (wP t ad o p_text p_length p_at p_count p_kinds p_arguments p_argumentCount) 0 [(0, .ref (ad o)), (1, .int a0), (2, .int a1)] []
  unfold f_X6_argument at hf
  refine j_iload_n hX dX6_argument_0 rfl 1 rfl ?_
  refine j_if_lt hX 31 dX6_argument_1 (by decide) hf (fun c1 hf => ?_) (fun c1 hf => ?_)
  · refine j_iconst hX 0 dX6_argument_31 (by decide) ?_
    refine j_istore_n hX [(3, .int 0), (0, .ref (ad o)), (1, .int a0), (2, .int a1)] dX6_argument_32 rfl (by decide) rfl ?_
    refine j_iload_n hX dX6_argument_33 rfl 0 rfl ?_
    refine j_if_eq (α := Unit) (F := none) (G := none) (o := none) hX 50 dX6_argument_34 (by decide) (ite_self none) (fun c34 _ => ?_) (fun c34 _ => absurd c34 (by decide))
    refine j_iconst hX 0 dX6_argument_50 (by decide) ?_
    cases hf
    exact j_iret hX hE dX6_argument_51 (Nat.le_refl _) (Nat.le_refl _) ⟨rfl, rfl⟩
  · refine j_iload_n hX dX6_argument_4 rfl 1 rfl ?_
    refine j_aload_n hX dX6_argument_5 rfl 0 rfl ?_
    refine j_get hX dX6_argument_6 inX6 3 q153 0 rfl rfl (by decide) rfl rfl ?_
    refine j_icmp_ge hX 31 dX6_argument_9 (by decide) hf (fun c9 hf => ?_) (fun c9 hf => ?_)
    · refine j_iconst hX 0 dX6_argument_31 (by decide) ?_
      refine j_istore_n hX [(3, .int 0), (0, .ref (ad o)), (1, .int a0), (2, .int a1)] dX6_argument_32 rfl (by decide) rfl ?_
      refine j_iload_n hX dX6_argument_33 rfl 0 rfl ?_
      refine j_if_eq (α := Unit) (F := none) (G := none) (o := none) hX 50 dX6_argument_34 (by decide) (ite_self none) (fun c34 _ => ?_) (fun c34 _ => absurd c34 (by decide))
      refine j_iconst hX 0 dX6_argument_50 (by decide) ?_
      cases hf
      exact j_iret hX hE dX6_argument_51 (Nat.le_refl _) (Nat.le_refl _) ⟨rfl, rfl⟩
    · refine j_iload_n hX dX6_argument_12 rfl 1 rfl ?_
      refine j_bipush hX 15 dX6_argument_13 (by decide) ?_
      refine j_icmp_ge hX 31 dX6_argument_15 (by decide) hf (fun c15 hf => ?_) (fun c15 hf => ?_)
      · refine j_iconst hX 0 dX6_argument_31 (by decide) ?_
        refine j_istore_n hX [(3, .int 0), (0, .ref (ad o)), (1, .int a0), (2, .int a1)] dX6_argument_32 rfl (by decide) rfl ?_
        refine j_iload_n hX dX6_argument_33 rfl 0 rfl ?_
        refine j_if_eq (α := Unit) (F := none) (G := none) (o := none) hX 50 dX6_argument_34 (by decide) (ite_self none) (fun c34 _ => ?_) (fun c34 _ => absurd c34 (by decide))
        refine j_iconst hX 0 dX6_argument_50 (by decide) ?_
        cases hf
        exact j_iret hX hE dX6_argument_51 (Nat.le_refl _) (Nat.le_refl _) ⟨rfl, rfl⟩
      · refine j_iload_n hX dX6_argument_18 rfl 2 rfl ?_
        refine j_if_lt hX 31 dX6_argument_19 (by decide) hf (fun c19 hf => ?_) (fun c19 hf => ?_)
        · refine j_iconst hX 0 dX6_argument_31 (by decide) ?_
          refine j_istore_n hX [(3, .int 0), (0, .ref (ad o)), (1, .int a0), (2, .int a1)] dX6_argument_32 rfl (by decide) rfl ?_
          refine j_iload_n hX dX6_argument_33 rfl 0 rfl ?_
          refine j_if_eq (α := Unit) (F := none) (G := none) (o := none) hX 50 dX6_argument_34 (by decide) (ite_self none) (fun c34 _ => ?_) (fun c34 _ => absurd c34 (by decide))
          refine j_iconst hX 0 dX6_argument_50 (by decide) ?_
          cases hf
          exact j_iret hX hE dX6_argument_51 (Nat.le_refl _) (Nat.le_refl _) ⟨rfl, rfl⟩
        · refine j_iload_n hX dX6_argument_22 rfl 2 rfl ?_
          refine j_iconst hX 5 dX6_argument_23 (by decide) ?_
          refine j_icmp_ge hX 31 dX6_argument_24 (by decide) hf (fun c24 hf => ?_) (fun c24 hf => ?_)
          · refine j_iconst hX 0 dX6_argument_31 (by decide) ?_
            refine j_istore_n hX [(3, .int 0), (0, .ref (ad o)), (1, .int a0), (2, .int a1)] dX6_argument_32 rfl (by decide) rfl ?_
            refine j_iload_n hX dX6_argument_33 rfl 0 rfl ?_
            refine j_if_eq (α := Unit) (F := none) (G := none) (o := none) hX 50 dX6_argument_34 (by decide) (ite_self none) (fun c34 _ => ?_) (fun c34 _ => absurd c34 (by decide))
            refine j_iconst hX 0 dX6_argument_50 (by decide) ?_
            cases hf
            exact j_iret hX hE dX6_argument_51 (Nat.le_refl _) (Nat.le_refl _) ⟨rfl, rfl⟩
          · refine j_iconst hX 1 dX6_argument_27 (by decide) ?_
            refine j_goto hX 32 dX6_argument_28 (by decide) ?_
            refine j_istore_n hX [(3, .int 1), (0, .ref (ad o)), (1, .int a0), (2, .int a1)] dX6_argument_32 rfl (by decide) rfl ?_
            refine j_iload_n hX dX6_argument_33 rfl 0 rfl ?_
            refine j_if_eq (α := Unit) (F := none) (G := none) (o := none) hX 50 dX6_argument_34 (by decide) (ite_self none) (fun c34 _ => absurd c34 (by decide)) (fun c34 _ => ?_)
            refine j_aload_n hX dX6_argument_37 rfl 1 rfl ?_
            refine j_get hX dX6_argument_38 inX6 5 q155 0 rfl rfl (by decide) rfl rfl ?_
            refine j_iload_n hX dX6_argument_41 rfl 2 rfl ?_
            refine j_iconst hX 5 dX6_argument_42 (by decide) ?_
            refine j_imul hX dX6_argument_43 ?_
            refine j_iload_n hX dX6_argument_44 rfl 3 rfl ?_
            refine j_iadd hX dX6_argument_45 ?_
            refine j_iald hX dX6_argument_46 3 0 rfl rfl hf (fun c46 hf => ?_)
            refine j_goto hX 51 dX6_argument_47 (by decide) ?_
            cases hf
            exact j_iret hX hE dX6_argument_51 (Nat.le_refl _) (Nat.le_refl _) ⟨rfl, rfl⟩
-- HammerDepot$Script isDigitHere ()Z
def f_X6_isDigitHere (p_text : Nat → Int32) (p_length : Int32) (p_at : Int32) : Option (Int32) :=
  if p_at < 0 then
    some 0
  else
    if p_length ≤ p_at then
      some 0
    else
      if 60 ≤ p_at then
        some 0
      else
        if jin p_at 60 = true then
          if (p_text (p_at).toNatClampNeg) < 48 then
            some 0
          else
            if jin p_at 60 = true then
              if 57 < (p_text (p_at).toNatClampNeg) then
                some 0
              else
                some 1
            else none
        else none
set_option maxHeartbeats 4000000 in
set_option maxRecDepth 100000 in
theorem k_X6_isDigitHere {l : Launch} {D : va_G} {t : Nat → ClassId} {ad : Nat → Nat} {o : Nat} (p_text : Nat → Int32) (p_length : Int32) (p_at : Int32) (p_count : Int32) (p_kinds : Nat → Int32) (p_arguments : Nat → Int32) (p_argumentCount : Int32)  (u : Int32) (hf : f_X6_isDigitHere p_text p_length p_at = some u) : cm l D (jT t) yX6_isDigitHere cX6_isDigitHere 1 (some FieldType.boolean) { frames := 0, cells := 0, slots := 0, locals := 0 } [.ref (ad o)] (wP t ad o p_text p_length p_at p_count p_kinds p_arguments p_argumentCount) (fun v w => v = (some (.int u)) ∧ w = wP t ad o p_text p_length p_at p_count p_kinds p_arguments p_argumentCount) := by
  refine cm_of RX6 rfl (by decide +kernel) (Nat.le_of_ble_eq_true rfl) (fun X hX hE => ?_)
  change J X 0 0 (wP t ad o p_text p_length p_at p_count p_kinds p_arguments p_argumentCount) 0 [(0, .ref (ad o))] []
  unfold f_X6_isDigitHere at hf
  refine j_aload_n hX dX6_isDigitHere_0 rfl 0 rfl ?_
  refine j_get hX dX6_isDigitHere_1 inX6 2 q152 0 rfl rfl (by decide) rfl rfl ?_
  refine j_if_lt hX 59 dX6_isDigitHere_4 (by decide) hf (fun c4 hf => ?_) (fun c4 hf => ?_)
  · refine j_iconst hX 0 dX6_isDigitHere_59 (by decide) ?_
    cases hf
    exact j_zret hX hE rfl dX6_isDigitHere_60 (Nat.le_refl _) (Nat.le_refl _) ⟨rfl, rfl⟩
  · refine j_aload_n hX dX6_isDigitHere_7 rfl 0 rfl ?_
    refine j_get hX dX6_isDigitHere_8 inX6 2 q152 0 rfl rfl (by decide) rfl rfl ?_
    refine j_aload_n hX dX6_isDigitHere_11 rfl 0 rfl ?_
    refine j_get hX dX6_isDigitHere_12 inX6 1 q151 0 rfl rfl (by decide) rfl rfl ?_
    refine j_icmp_ge hX 59 dX6_isDigitHere_15 (by decide) hf (fun c15 hf => ?_) (fun c15 hf => ?_)
    · refine j_iconst hX 0 dX6_isDigitHere_59 (by decide) ?_
      cases hf
      exact j_zret hX hE rfl dX6_isDigitHere_60 (Nat.le_refl _) (Nat.le_refl _) ⟨rfl, rfl⟩
    · refine j_aload_n hX dX6_isDigitHere_18 rfl 0 rfl ?_
      refine j_get hX dX6_isDigitHere_19 inX6 2 q152 0 rfl rfl (by decide) rfl rfl ?_
      refine j_bipush hX 60 dX6_isDigitHere_22 (by decide) ?_
      refine j_icmp_ge hX 59 dX6_isDigitHere_24 (by decide) hf (fun c24 hf => ?_) (fun c24 hf => ?_)
      · refine j_iconst hX 0 dX6_isDigitHere_59 (by decide) ?_
        cases hf
        exact j_zret hX hE rfl dX6_isDigitHere_60 (Nat.le_refl _) (Nat.le_refl _) ⟨rfl, rfl⟩
      · refine j_aload_n hX dX6_isDigitHere_27 rfl 0 rfl ?_
        refine j_get hX dX6_isDigitHere_28 inX6 0 q150 0 rfl rfl (by decide) rfl rfl ?_
        refine j_aload_n hX dX6_isDigitHere_31 rfl 0 rfl ?_
        refine j_get hX dX6_isDigitHere_32 inX6 2 q152 0 rfl rfl (by decide) rfl rfl ?_
        refine j_cald hX dX6_isDigitHere_35 1 1 rfl rfl hf (fun c35 hf => ?_)
        refine j_bipush hX 48 dX6_isDigitHere_36 (by decide) ?_
        refine j_icmp_lt hX 59 dX6_isDigitHere_38 (by decide) hf (fun c38 hf => ?_) (fun c38 hf => ?_)
        · refine j_iconst hX 0 dX6_isDigitHere_59 (by decide) ?_
          cases hf
          exact j_zret hX hE rfl dX6_isDigitHere_60 (Nat.le_refl _) (Nat.le_refl _) ⟨rfl, rfl⟩
        · refine j_aload_n hX dX6_isDigitHere_41 rfl 0 rfl ?_
          refine j_get hX dX6_isDigitHere_42 inX6 0 q150 0 rfl rfl (by decide) rfl rfl ?_
          refine j_aload_n hX dX6_isDigitHere_45 rfl 0 rfl ?_
          refine j_get hX dX6_isDigitHere_46 inX6 2 q152 0 rfl rfl (by decide) rfl rfl ?_
          refine j_cald hX dX6_isDigitHere_49 1 1 rfl rfl hf (fun c49 hf => ?_)
          refine j_bipush hX 57 dX6_isDigitHere_50 (by decide) ?_
          refine j_icmp_gt hX 59 dX6_isDigitHere_52 (by decide) hf (fun c52 hf => ?_) (fun c52 hf => ?_)
          · refine j_iconst hX 0 dX6_isDigitHere_59 (by decide) ?_
            cases hf
            exact j_zret hX hE rfl dX6_isDigitHere_60 (Nat.le_refl _) (Nat.le_refl _) ⟨rfl, rfl⟩
          · refine j_iconst hX 1 dX6_isDigitHere_55 (by decide) ?_
            refine j_goto hX 60 dX6_isDigitHere_56 (by decide) ?_
            cases hf
            exact j_zret hX hE rfl dX6_isDigitHere_60 (Nat.le_refl _) (Nat.le_refl _) ⟨rfl, rfl⟩
-- HammerDepot$Script store (I)V
def f_X6_store (p_count : Int32) (p_arguments : Nat → Int32) (p_argumentCount : Int32) (a0 : Int32) : Option ((Nat → Int32) × Int32) :=
  if 15 ≤ p_count then
    some (p_arguments, p_argumentCount)
  else
    if 5 ≤ p_argumentCount then
      some (p_arguments, p_argumentCount)
    else
      if jin ((p_count * 5) + p_argumentCount) 75 = true then
        some (upd p_arguments ((p_count * 5) + p_argumentCount).toNatClampNeg a0, p_argumentCount + 1)
      else none
set_option maxHeartbeats 4000000 in
set_option maxRecDepth 100000 in
theorem k_X6_store {l : Launch} {D : va_G} {t : Nat → ClassId} {ad : Nat → Nat} {o : Nat} (p_text : Nat → Int32) (p_length : Int32) (p_at : Int32) (p_count : Int32) (p_kinds : Nat → Int32) (p_arguments : Nat → Int32) (p_argumentCount : Int32) (a0 : Int32) (u : (Nat → Int32) × Int32) (hf : f_X6_store p_count p_arguments p_argumentCount a0 = some u) : cm l D (jT t) yX6_store cX6_store 2 none { frames := 0, cells := 0, slots := 0, locals := 0 } [.ref (ad o), .int a0] (wP t ad o p_text p_length p_at p_count p_kinds p_arguments p_argumentCount) (fun v w => v = none ∧ w = wP t ad o p_text p_length p_at p_count p_kinds u.1 u.2) := by
  refine cm_of RX6 rfl (by decide +kernel) (Nat.le_of_ble_eq_true rfl) (fun X hX hE => ?_)
  change J X 0 0 (wP t ad o p_text p_length p_at p_count p_kinds p_arguments p_argumentCount) 0 [(0, .ref (ad o)), (1, .int a0)] []
  unfold f_X6_store at hf
  refine j_aload_n hX dX6_store_0 rfl 0 rfl ?_
  refine j_get hX dX6_store_1 inX6 3 q153 0 rfl rfl (by decide) rfl rfl ?_
  refine j_bipush hX 15 dX6_store_4 (by decide) ?_
  refine j_icmp_ge hX 44 dX6_store_6 (by decide) hf (fun c6 hf => ?_) (fun c6 hf => ?_)
  · cases hf
    exact j_vret hX hE dX6_store_44 (Nat.le_refl _) (Nat.le_refl _) ⟨rfl, rfl⟩
  · refine j_aload_n hX dX6_store_9 rfl 0 rfl ?_
    refine j_get hX dX6_store_10 inX6 6 q156 0 rfl rfl (by decide) rfl rfl ?_
    refine j_iconst hX 5 dX6_store_13 (by decide) ?_
    refine j_icmp_ge hX 44 dX6_store_14 (by decide) hf (fun c14 hf => ?_) (fun c14 hf => ?_)
    · cases hf
      exact j_vret hX hE dX6_store_44 (Nat.le_refl _) (Nat.le_refl _) ⟨rfl, rfl⟩
    · refine j_aload_n hX dX6_store_17 rfl 0 rfl ?_
      refine j_get hX dX6_store_18 inX6 5 q155 0 rfl rfl (by decide) rfl rfl ?_
      refine j_aload_n hX dX6_store_21 rfl 0 rfl ?_
      refine j_get hX dX6_store_22 inX6 3 q153 0 rfl rfl (by decide) rfl rfl ?_
      refine j_iconst hX 5 dX6_store_25 (by decide) ?_
      refine j_imul hX dX6_store_26 ?_
      refine j_aload_n hX dX6_store_27 rfl 0 rfl ?_
      refine j_get hX dX6_store_28 inX6 6 q156 0 rfl rfl (by decide) rfl rfl ?_
      refine j_iadd hX dX6_store_31 ?_
      refine j_iload_n hX dX6_store_32 rfl 1 rfl ?_
      refine j_iast hX (wP t ad o p_text p_length p_at p_count p_kinds (upd p_arguments ((p_count * 5) + p_argumentCount).toNatClampNeg a0) p_argumentCount) dX6_store_33 3 0 rfl rfl rfl hf (fun c33 hf => ?_)
      refine j_aload_n hX dX6_store_34 rfl 0 rfl ?_
      refine j_dup hX dX6_store_35 rfl ?_
      refine j_get hX dX6_store_36 inX6 6 q156 0 rfl rfl (by decide) rfl rfl ?_
      refine j_iconst hX 1 dX6_store_39 (by decide) ?_
      refine j_iadd hX dX6_store_40 ?_
      refine j_put hX (wP t ad o p_text p_length p_at p_count p_kinds (upd p_arguments ((p_count * 5) + p_argumentCount).toNatClampNeg a0) (p_argumentCount + 1)) tyX6 dX6_store_41 inX6 tyX6_ok nmX6 6 q156 0 rfl rfl (by decide) rfl rfl rfl rfl rfl (Nat.le_of_ble_eq_true rfl) rfl ?_
      cases hf
      exact j_vret hX hE dX6_store_44 (Nat.le_refl _) (Nat.le_refl _) ⟨rfl, rfl⟩
-- HammerDepot$Script readNumber (I)Z
def f_X6_readNumber_L4 (p_text : Nat → Int32) (p_length : Int32) (x1 : Int32) : Nat → Int32 → Int32 → Int32 → Option (Int32 × Int32 × Int32)
  | 0, _, _, _ => none
  | jn + 1, x3, x2, p_at =>
    if x1 ≤ x3 then
      some (x3, x2, p_at)
    else
      Option.bind (f_X6_isDigitHere p_text p_length p_at) (fun u1 =>
        if u1 = 0 then
          some (x3, x2, p_at)
        else
          if jin p_at 60 = true then
            f_X6_readNumber_L4 p_text p_length x1 jn (x3 + 1) (((10 : Int32) * x2) + ((p_text (p_at).toNatClampNeg) - 48)) (p_at + 1)
          else none)
def f_X6_readNumber (p_text : Nat → Int32) (p_length : Int32) (p_at : Int32) (p_count : Int32) (p_arguments : Nat → Int32) (p_argumentCount : Int32) (a0 : Int32) : Option (Int32 × Int32 × (Nat → Int32) × Int32) :=
  Option.bind (f_X6_readNumber_L4 p_text p_length a0 jFU 0 0 p_at) (fun s4 =>
    if s4.1 = 0 then
      some (0, s4.2.2, p_arguments, p_argumentCount)
    else
      Option.bind (f_X6_store p_count p_arguments p_argumentCount s4.2.1) (fun u6 =>
        some (1, s4.2.2, u6.1, u6.2)))
set_option maxHeartbeats 4000000 in
set_option maxRecDepth 100000 in
theorem k_X6_readNumber_L4 {l : Launch} {D : va_G} {t : Nat → ClassId} {ad : Nat → Nat} {o : Nat} (p_text : Nat → Int32) (p_length : Int32) (x1 : Int32) (p_count : Int32) (p_kinds : Nat → Int32) (p_arguments : Nat → Int32) (p_argumentCount : Int32) {X : jX} (hX : jOK X l D (jT t) cX6_readNumber RX6 (some FieldType.boolean) { frames := 1, cells := 0, slots := 0, locals := 21 } 4) :
    ∀ (jn : Nat) (x3 : Int32) (x2 : Int32) (p_at : Int32) (u : Int32 × Int32 × Int32) (hf : f_X6_readNumber_L4 p_text p_length x1 jn x3 x2 p_at = some u) (kx : ∀ s : Int32 × Int32 × Int32, u = s → J X 0 0 (wP t ad o p_text p_length s.2.2 p_count p_kinds p_arguments p_argumentCount) 50 [(3, .int s.1), (2, .int s.2.1), (0, .ref (ad o)), (1, .int x1)] []), J X 0 0 (wP t ad o p_text p_length p_at p_count p_kinds p_arguments p_argumentCount) 4 [(3, .int x3), (2, .int x2), (0, .ref (ad o)), (1, .int x1)] [] := by
  intro jn
  induction jn with
  | zero => intro x3 x2 p_at u hf; cases (show (none : Option (Int32 × Int32 × Int32)) = some u from hf)
  | succ jn ih =>
    intro x3 x2 p_at u hf kx
    unfold f_X6_readNumber_L4 at hf
    refine j_iload_n hX dX6_readNumber_4 rfl 0 rfl ?_
    refine j_iload_n hX dX6_readNumber_5 rfl 3 rfl ?_
    refine j_icmp_ge hX 50 dX6_readNumber_6 (by decide) hf (fun c6 hf => ?_) (fun c6 hf => ?_)
    · cases hf
      exact kx _ rfl
    · refine j_aload_n hX dX6_readNumber_9 rfl 2 rfl ?_
      obtain ⟨u1, h2, hf⟩ := jbind hf
      refine j_callV (st := []) hX (k_X6_isDigitHere (l := l) (D := D) (t := t) (ad := ad) (o := o) p_text p_length p_at p_count p_kinds p_arguments p_argumentCount  u1 h2) q1372 q1373 q1944 q10 q1374 (n9 := 0) rfl ⟨by decide +kernel, by decide +kernel⟩ 0 rfl rfl rfl dX6_readNumber_10 (Nat.le_of_ble_eq_true rfl) ⟨Nat.le_refl _, Nat.le_refl _⟩ (fun w : va_W => w) jFr_id rfl rfl (fun v w hvw => ?_)
      obtain ⟨rfl, rfl⟩ := hvw
      change J X 0 0 (wP t ad o p_text p_length p_at p_count p_kinds p_arguments p_argumentCount) 13 [(3, .int x3), (2, .int x2), (0, .ref (ad o)), (1, .int x1)] [.int u1]
      refine j_if_eq hX 50 dX6_readNumber_13 (by decide) hf (fun c13 hf => ?_) (fun c13 hf => ?_)
      · cases hf
        exact kx _ rfl
      · refine j_bipush hX 10 dX6_readNumber_16 (by decide) ?_
        refine j_iload_n hX dX6_readNumber_18 rfl 1 rfl ?_
        refine j_imul hX dX6_readNumber_19 ?_
        refine j_aload_n hX dX6_readNumber_20 rfl 2 rfl ?_
        refine j_get hX dX6_readNumber_21 inX6 0 q150 0 rfl rfl (by decide) rfl rfl ?_
        refine j_aload_n hX dX6_readNumber_24 rfl 2 rfl ?_
        refine j_get hX dX6_readNumber_25 inX6 2 q152 0 rfl rfl (by decide) rfl rfl ?_
        refine j_cald hX dX6_readNumber_28 1 1 rfl rfl hf (fun c28 hf => ?_)
        refine j_bipush hX 48 dX6_readNumber_29 (by decide) ?_
        refine j_isub hX dX6_readNumber_31 ?_
        refine j_iadd hX dX6_readNumber_32 ?_
        refine j_istore_n hX [(2, .int (((10 : Int32) * x2) + ((p_text (p_at).toNatClampNeg) - 48))), (3, .int x3), (0, .ref (ad o)), (1, .int x1)] dX6_readNumber_33 rfl (by decide) rfl ?_
        refine j_aload_n hX dX6_readNumber_34 rfl 2 rfl ?_
        refine j_dup hX dX6_readNumber_35 rfl ?_
        refine j_get hX dX6_readNumber_36 inX6 2 q152 0 rfl rfl (by decide) rfl rfl ?_
        refine j_iconst hX 1 dX6_readNumber_39 (by decide) ?_
        refine j_iadd hX dX6_readNumber_40 ?_
        refine j_put hX (wP t ad o p_text p_length (p_at + 1) p_count p_kinds p_arguments p_argumentCount) tyX6 dX6_readNumber_41 inX6 tyX6_ok nmX6 2 q152 0 rfl rfl (by decide) rfl rfl rfl rfl rfl (Nat.le_of_ble_eq_true rfl) rfl ?_
        refine j_iinc hX (x3 + 1) [(3, .int (x3 + 1)), (2, .int (((10 : Int32) * x2) + ((p_text (p_at).toNatClampNeg) - 48))), (0, .ref (ad o)), (1, .int x1)] dX6_readNumber_44 1 rfl rfl (by decide) rfl ?_
        refine j_goto hX 4 dX6_readNumber_47 (by decide) ?_
        exact ih (x3 + 1) (((10 : Int32) * x2) + ((p_text (p_at).toNatClampNeg) - 48)) (p_at + 1) u hf kx
set_option maxHeartbeats 4000000 in
set_option maxRecDepth 100000 in
theorem k_X6_readNumber {l : Launch} {D : va_G} {t : Nat → ClassId} {ad : Nat → Nat} {o : Nat} (p_text : Nat → Int32) (p_length : Int32) (p_at : Int32) (p_count : Int32) (p_kinds : Nat → Int32) (p_arguments : Nat → Int32) (p_argumentCount : Int32) (a0 : Int32) (u : Int32 × Int32 × (Nat → Int32) × Int32) (hf : f_X6_readNumber p_text p_length p_at p_count p_arguments p_argumentCount a0 = some u) : cm l D (jT t) yX6_readNumber cX6_readNumber 4 (some FieldType.boolean) { frames := 1, cells := 0, slots := 0, locals := 21 } [.ref (ad o), .int a0] (wP t ad o p_text p_length p_at p_count p_kinds p_arguments p_argumentCount) (fun v w => v = (some (.int u.1)) ∧ w = wP t ad o p_text p_length u.2.1 p_count p_kinds u.2.2.1 u.2.2.2) := by
  refine cm_of RX6 rfl (by decide +kernel) (Nat.le_of_ble_eq_true rfl) (fun X hX hE => ?_)
  change J X 0 0 (wP t ad o p_text p_length p_at p_count p_kinds p_arguments p_argumentCount) 0 [(0, .ref (ad o)), (1, .int a0)] []
  unfold f_X6_readNumber at hf
  refine j_iconst hX 0 dX6_readNumber_0 (by decide) ?_
  refine j_istore_n hX [(2, .int 0), (0, .ref (ad o)), (1, .int a0)] dX6_readNumber_1 rfl (by decide) rfl ?_
  refine j_iconst hX 0 dX6_readNumber_2 (by decide) ?_
  refine j_istore_n hX [(3, .int 0), (2, .int 0), (0, .ref (ad o)), (1, .int a0)] dX6_readNumber_3 rfl (by decide) rfl ?_
  obtain ⟨s4, h5, hf⟩ := jbind hf
  refine k_X6_readNumber_L4 (ad := ad) p_text p_length a0 p_count p_kinds p_arguments p_argumentCount hX jFU 0 0 p_at s4 h5 (fun s40 es4 => ?_)
  subst es4
  refine j_iload_n hX dX6_readNumber_50 rfl 0 rfl ?_
  refine j_if_ne hX 56 dX6_readNumber_51 (by decide) hf (fun c51 hf => ?_) (fun c51 hf => ?_)
  · refine j_aload_n hX dX6_readNumber_56 rfl 2 rfl ?_
    refine j_iload_n hX dX6_readNumber_57 rfl 1 rfl ?_
    obtain ⟨u6, h7, hf⟩ := jbind hf
    refine j_callV (st := []) hX (k_X6_store (l := l) (D := D) (t := t) (ad := ad) (o := o) p_text p_length s4.2.2 p_count p_kinds p_arguments p_argumentCount s4.2.1 u6 h7) q1375 q1376 q1945 q10 q1377 (n9 := 1) rfl ⟨by decide +kernel, by decide +kernel⟩ 0 rfl rfl rfl dX6_readNumber_58 (Nat.le_of_ble_eq_true rfl) ⟨Nat.le_refl _, Nat.le_refl _⟩ (fun w : va_W => w) jFr_id rfl rfl (fun v w hvw => ?_)
    obtain ⟨rfl, rfl⟩ := hvw
    change J X 0 0 (wP t ad o p_text p_length s4.2.2 p_count p_kinds u6.1 u6.2) 61 [(3, .int s4.1), (2, .int s4.2.1), (0, .ref (ad o)), (1, .int a0)] []
    refine j_iconst hX 1 dX6_readNumber_61 (by decide) ?_
    cases hf
    exact j_zret hX hE rfl dX6_readNumber_62 (Nat.le_refl _) (Nat.le_refl _) ⟨rfl, rfl⟩
  · refine j_iconst hX 0 dX6_readNumber_54 (by decide) ?_
    cases hf
    exact j_zret hX hE rfl dX6_readNumber_55 (Nat.le_refl _) (Nat.le_refl _) ⟨rfl, rfl⟩
-- HammerDepot$Script readCharacter (C)Z
def f_X6_readCharacter (p_text : Nat → Int32) (p_length : Int32) (p_at : Int32) (a0 : Int32) : Option (Int32 × Int32) :=
  if p_at < 0 then
    some (0, p_at)
  else
    if p_length ≤ p_at then
      some (0, p_at)
    else
      if 60 ≤ p_at then
        some (0, p_at)
      else
        if jin p_at 60 = true then
          if (p_text (p_at).toNatClampNeg) = a0 then
            some (1, p_at + 1)
          else
            some (0, p_at)
        else none
set_option maxHeartbeats 4000000 in
set_option maxRecDepth 100000 in
theorem k_X6_readCharacter {l : Launch} {D : va_G} {t : Nat → ClassId} {ad : Nat → Nat} {o : Nat} (p_text : Nat → Int32) (p_length : Int32) (p_at : Int32) (p_count : Int32) (p_kinds : Nat → Int32) (p_arguments : Nat → Int32) (p_argumentCount : Int32) (a0 : Int32) (u : Int32 × Int32) (hf : f_X6_readCharacter p_text p_length p_at a0 = some u) : cm l D (jT t) yX6_readCharacter cX6_readCharacter 2 (some FieldType.boolean) { frames := 0, cells := 0, slots := 0, locals := 0 } [.ref (ad o), .int a0] (wP t ad o p_text p_length p_at p_count p_kinds p_arguments p_argumentCount) (fun v w => v = (some (.int u.1)) ∧ w = wP t ad o p_text p_length u.2 p_count p_kinds p_arguments p_argumentCount) := by
  refine cm_of RX6 rfl (by decide +kernel) (Nat.le_of_ble_eq_true rfl) (fun X hX hE => ?_)
  change J X 0 0 (wP t ad o p_text p_length p_at p_count p_kinds p_arguments p_argumentCount) 0 [(0, .ref (ad o)), (1, .int a0)] []
  unfold f_X6_readCharacter at hf
  refine j_aload_n hX dX6_readCharacter_0 rfl 0 rfl ?_
  refine j_get hX dX6_readCharacter_1 inX6 2 q152 0 rfl rfl (by decide) rfl rfl ?_
  refine j_if_lt hX 40 dX6_readCharacter_4 (by decide) hf (fun c4 hf => ?_) (fun c4 hf => ?_)
  · refine j_iconst hX 0 dX6_readCharacter_40 (by decide) ?_
    cases hf
    exact j_zret hX hE rfl dX6_readCharacter_41 (Nat.le_refl _) (Nat.le_refl _) ⟨rfl, rfl⟩
  · refine j_aload_n hX dX6_readCharacter_7 rfl 0 rfl ?_
    refine j_get hX dX6_readCharacter_8 inX6 2 q152 0 rfl rfl (by decide) rfl rfl ?_
    refine j_aload_n hX dX6_readCharacter_11 rfl 0 rfl ?_
    refine j_get hX dX6_readCharacter_12 inX6 1 q151 0 rfl rfl (by decide) rfl rfl ?_
    refine j_icmp_ge hX 40 dX6_readCharacter_15 (by decide) hf (fun c15 hf => ?_) (fun c15 hf => ?_)
    · refine j_iconst hX 0 dX6_readCharacter_40 (by decide) ?_
      cases hf
      exact j_zret hX hE rfl dX6_readCharacter_41 (Nat.le_refl _) (Nat.le_refl _) ⟨rfl, rfl⟩
    · refine j_aload_n hX dX6_readCharacter_18 rfl 0 rfl ?_
      refine j_get hX dX6_readCharacter_19 inX6 2 q152 0 rfl rfl (by decide) rfl rfl ?_
      refine j_bipush hX 60 dX6_readCharacter_22 (by decide) ?_
      refine j_icmp_ge hX 40 dX6_readCharacter_24 (by decide) hf (fun c24 hf => ?_) (fun c24 hf => ?_)
      · refine j_iconst hX 0 dX6_readCharacter_40 (by decide) ?_
        cases hf
        exact j_zret hX hE rfl dX6_readCharacter_41 (Nat.le_refl _) (Nat.le_refl _) ⟨rfl, rfl⟩
      · refine j_aload_n hX dX6_readCharacter_27 rfl 0 rfl ?_
        refine j_get hX dX6_readCharacter_28 inX6 0 q150 0 rfl rfl (by decide) rfl rfl ?_
        refine j_aload_n hX dX6_readCharacter_31 rfl 0 rfl ?_
        refine j_get hX dX6_readCharacter_32 inX6 2 q152 0 rfl rfl (by decide) rfl rfl ?_
        refine j_cald hX dX6_readCharacter_35 1 1 rfl rfl hf (fun c35 hf => ?_)
        refine j_iload_n hX dX6_readCharacter_36 rfl 1 rfl ?_
        refine j_icmp_eq hX 42 dX6_readCharacter_37 (by decide) hf (fun c37 hf => ?_) (fun c37 hf => ?_)
        · refine j_aload_n hX dX6_readCharacter_42 rfl 0 rfl ?_
          refine j_dup hX dX6_readCharacter_43 rfl ?_
          refine j_get hX dX6_readCharacter_44 inX6 2 q152 0 rfl rfl (by decide) rfl rfl ?_
          refine j_iconst hX 1 dX6_readCharacter_47 (by decide) ?_
          refine j_iadd hX dX6_readCharacter_48 ?_
          refine j_put hX (wP t ad o p_text p_length (p_at + 1) p_count p_kinds p_arguments p_argumentCount) tyX6 dX6_readCharacter_49 inX6 tyX6_ok nmX6 2 q152 0 rfl rfl (by decide) rfl rfl rfl rfl rfl (Nat.le_of_ble_eq_true rfl) rfl ?_
          refine j_iconst hX 1 dX6_readCharacter_52 (by decide) ?_
          cases hf
          exact j_zret hX hE rfl dX6_readCharacter_53 (Nat.le_refl _) (Nat.le_refl _) ⟨rfl, rfl⟩
        · refine j_iconst hX 0 dX6_readCharacter_40 (by decide) ?_
          cases hf
          exact j_zret hX hE rfl dX6_readCharacter_41 (Nat.le_refl _) (Nat.le_refl _) ⟨rfl, rfl⟩
-- HammerDepot$Script readPart (C)Z
def f_X6_readPart (p_text : Nat → Int32) (p_length : Int32) (p_at : Int32) (p_count : Int32) (p_arguments : Nat → Int32) (p_argumentCount : Int32) (a0 : Int32) : Option (Int32 × Int32 × (Nat → Int32) × Int32) :=
  if a0 = 78 then
    Option.bind (f_X6_readNumber p_text p_length p_at p_count p_arguments p_argumentCount 3) (fun u5 =>
      if u5.1 = 0 ∨ u5.1 = 1 then some (u5.1, u5.2.1, u5.2.2.1, u5.2.2.2) else none)
  else
    if a0 = 68 then
      Option.bind (f_X6_readNumber p_text p_length p_at p_count p_arguments p_argumentCount 1) (fun u3 =>
        if u3.1 = 0 ∨ u3.1 = 1 then some (u3.1, u3.2.1, u3.2.2.1, u3.2.2.2) else none)
    else
      Option.bind (f_X6_readCharacter p_text p_length p_at a0) (fun u1 =>
        if u1.1 = 0 ∨ u1.1 = 1 then some (u1.1, u1.2, p_arguments, p_argumentCount) else none)
set_option maxHeartbeats 4000000 in
set_option maxRecDepth 100000 in
theorem k_X6_readPart {l : Launch} {D : va_G} {t : Nat → ClassId} {ad : Nat → Nat} {o : Nat} (p_text : Nat → Int32) (p_length : Int32) (p_at : Int32) (p_count : Int32) (p_kinds : Nat → Int32) (p_arguments : Nat → Int32) (p_argumentCount : Int32) (a0 : Int32) (u : Int32 × Int32 × (Nat → Int32) × Int32) (hf : f_X6_readPart p_text p_length p_at p_count p_arguments p_argumentCount a0 = some u) : cm l D (jT t) yX6_readPart cX6_readPart 2 (some FieldType.boolean) { frames := 2, cells := 0, slots := 0, locals := 44 } [.ref (ad o), .int a0] (wP t ad o p_text p_length p_at p_count p_kinds p_arguments p_argumentCount) (fun v w => v = (some (.int u.1)) ∧ w = wP t ad o p_text p_length u.2.1 p_count p_kinds u.2.2.1 u.2.2.2) := by
  refine cm_of RX6 rfl (by decide +kernel) (Nat.le_of_ble_eq_true rfl) (fun X hX hE => ?_)
  change J X 0 0 (wP t ad o p_text p_length p_at p_count p_kinds p_arguments p_argumentCount) 0 [(0, .ref (ad o)), (1, .int a0)] []
  unfold f_X6_readPart at hf
  refine j_iload_n hX dX6_readPart_0 rfl 1 rfl ?_
  refine j_bipush hX 78 dX6_readPart_1 (by decide) ?_
  refine j_icmp_ne hX 12 dX6_readPart_3 (by decide) hf (fun c3 hf => ?_) (fun c3 hf => ?_)
  · refine j_iload_n hX dX6_readPart_12 rfl 1 rfl ?_
    refine j_bipush hX 68 dX6_readPart_13 (by decide) ?_
    refine j_icmp_ne hX 24 dX6_readPart_15 (by decide) hf (fun c15 hf => ?_) (fun c15 hf => ?_)
    · refine j_aload_n hX dX6_readPart_24 rfl 0 rfl ?_
      refine j_iload_n hX dX6_readPart_25 rfl 1 rfl ?_
      obtain ⟨u1, h2, hf⟩ := jbind hf
      refine j_callV (st := []) hX (k_X6_readCharacter (l := l) (D := D) (t := t) (ad := ad) (o := o) p_text p_length p_at p_count p_kinds p_arguments p_argumentCount a0 u1 h2) q1378 q1379 q1946 q10 q1380 (n9 := 1) rfl ⟨by decide +kernel, by decide +kernel⟩ 0 rfl rfl rfl dX6_readPart_26 (Nat.le_of_ble_eq_true rfl) ⟨Nat.le_refl _, Nat.le_refl _⟩ (fun w : va_W => w) jFr_id rfl rfl (fun v w hvw => ?_)
      obtain ⟨rfl, rfl⟩ := hvw
      change J X 0 0 (wP t ad o p_text p_length u1.2 p_count p_kinds p_arguments p_argumentCount) 29 [(0, .ref (ad o)), (1, .int a0)] [.int u1.1]
      obtain ⟨c29, hf⟩ := jif hf
      cases hf
      exact j_zret hX hE (jz_n c29) dX6_readPart_29 (Nat.le_refl _) (Nat.le_refl _) ⟨rfl, rfl⟩
    · refine j_aload_n hX dX6_readPart_18 rfl 0 rfl ?_
      refine j_iconst hX 1 dX6_readPart_19 (by decide) ?_
      obtain ⟨u3, h4, hf⟩ := jbind hf
      refine j_callV (st := []) hX (k_X6_readNumber (l := l) (D := D) (t := t) (ad := ad) (o := o) p_text p_length p_at p_count p_kinds p_arguments p_argumentCount 1 u3 h4) q1369 q1370 q1943 q10 q1371 (n9 := 1) rfl ⟨by decide +kernel, by decide +kernel⟩ 0 rfl rfl rfl dX6_readPart_20 (Nat.le_of_ble_eq_true rfl) ⟨Nat.le_refl _, Nat.le_refl _⟩ (fun w : va_W => w) jFr_id rfl rfl (fun v w hvw => ?_)
      obtain ⟨rfl, rfl⟩ := hvw
      change J X 0 0 (wP t ad o p_text p_length u3.2.1 p_count p_kinds u3.2.2.1 u3.2.2.2) 23 [(0, .ref (ad o)), (1, .int a0)] [.int u3.1]
      obtain ⟨c23, hf⟩ := jif hf
      cases hf
      exact j_zret hX hE (jz_n c23) dX6_readPart_23 (Nat.le_refl _) (Nat.le_refl _) ⟨rfl, rfl⟩
  · refine j_aload_n hX dX6_readPart_6 rfl 0 rfl ?_
    refine j_iconst hX 3 dX6_readPart_7 (by decide) ?_
    obtain ⟨u5, h6, hf⟩ := jbind hf
    refine j_callV (st := []) hX (k_X6_readNumber (l := l) (D := D) (t := t) (ad := ad) (o := o) p_text p_length p_at p_count p_kinds p_arguments p_argumentCount 3 u5 h6) q1369 q1370 q1943 q10 q1371 (n9 := 1) rfl ⟨by decide +kernel, by decide +kernel⟩ 0 rfl rfl rfl dX6_readPart_8 (Nat.le_of_ble_eq_true rfl) ⟨Nat.le_refl _, Nat.le_refl _⟩ (fun w : va_W => w) jFr_id rfl rfl (fun v w hvw => ?_)
    obtain ⟨rfl, rfl⟩ := hvw
    change J X 0 0 (wP t ad o p_text p_length u5.2.1 p_count p_kinds u5.2.2.1 u5.2.2.2) 11 [(0, .ref (ad o)), (1, .int a0)] [.int u5.1]
    obtain ⟨c11, hf⟩ := jif hf
    cases hf
    exact j_zret hX hE (jz_n c11) dX6_readPart_11 (Nat.le_refl _) (Nat.le_refl _) ⟨rfl, rfl⟩
-- HammerDepot$Script readOptionalDays ()Z
def f_X6_readOptionalDays (p_text : Nat → Int32) (p_length : Int32) (p_at : Int32) (p_count : Int32) (p_arguments : Nat → Int32) (p_argumentCount : Int32) : Option (Int32 × Int32 × (Nat → Int32) × Int32) :=
  Option.bind (f_X6_readCharacter p_text p_length p_at 32) (fun u1 =>
    if u1.1 = 0 then
      Option.bind (f_X6_store p_count p_arguments p_argumentCount 1) (fun u3 =>
        some (1, u1.2, u3.1, u3.2))
    else
      Option.bind (f_X6_readNumber p_text p_length u1.2 p_count p_arguments p_argumentCount 3) (fun u5 =>
        if u5.1 = 0 ∨ u5.1 = 1 then some (u5.1, u5.2.1, u5.2.2.1, u5.2.2.2) else none))
set_option maxHeartbeats 4000000 in
set_option maxRecDepth 100000 in
theorem k_X6_readOptionalDays {l : Launch} {D : va_G} {t : Nat → ClassId} {ad : Nat → Nat} {o : Nat} (p_text : Nat → Int32) (p_length : Int32) (p_at : Int32) (p_count : Int32) (p_kinds : Nat → Int32) (p_arguments : Nat → Int32) (p_argumentCount : Int32)  (u : Int32 × Int32 × (Nat → Int32) × Int32) (hf : f_X6_readOptionalDays p_text p_length p_at p_count p_arguments p_argumentCount = some u) : cm l D (jT t) yX6_readOptionalDays cX6_readOptionalDays 1 (some FieldType.boolean) { frames := 2, cells := 0, slots := 0, locals := 44 } [.ref (ad o)] (wP t ad o p_text p_length p_at p_count p_kinds p_arguments p_argumentCount) (fun v w => v = (some (.int u.1)) ∧ w = wP t ad o p_text p_length u.2.1 p_count p_kinds u.2.2.1 u.2.2.2) := by
  refine cm_of RX6 rfl (by decide +kernel) (Nat.le_of_ble_eq_true rfl) (fun X hX hE => ?_)
  change J X 0 0 (wP t ad o p_text p_length p_at p_count p_kinds p_arguments p_argumentCount) 0 [(0, .ref (ad o))] []
  unfold f_X6_readOptionalDays at hf
  refine j_aload_n hX dX6_readOptionalDays_0 rfl 0 rfl ?_
  refine j_bipush hX 32 dX6_readOptionalDays_1 (by decide) ?_
  obtain ⟨u1, h2, hf⟩ := jbind hf
  refine j_callV (st := []) hX (k_X6_readCharacter (l := l) (D := D) (t := t) (ad := ad) (o := o) p_text p_length p_at p_count p_kinds p_arguments p_argumentCount 32 u1 h2) q1378 q1379 q1946 q10 q1380 (n9 := 1) rfl ⟨by decide +kernel, by decide +kernel⟩ 0 rfl rfl rfl dX6_readOptionalDays_3 (Nat.le_of_ble_eq_true rfl) ⟨Nat.le_refl _, Nat.le_refl _⟩ (fun w : va_W => w) jFr_id rfl rfl (fun v w hvw => ?_)
  obtain ⟨rfl, rfl⟩ := hvw
  change J X 0 0 (wP t ad o p_text p_length u1.2 p_count p_kinds p_arguments p_argumentCount) 6 [(0, .ref (ad o))] [.int u1.1]
  refine j_if_eq hX 15 dX6_readOptionalDays_6 (by decide) hf (fun c6 hf => ?_) (fun c6 hf => ?_)
  · refine j_aload_n hX dX6_readOptionalDays_15 rfl 0 rfl ?_
    refine j_iconst hX 1 dX6_readOptionalDays_16 (by decide) ?_
    obtain ⟨u3, h4, hf⟩ := jbind hf
    refine j_callV (st := []) hX (k_X6_store (l := l) (D := D) (t := t) (ad := ad) (o := o) p_text p_length u1.2 p_count p_kinds p_arguments p_argumentCount 1 u3 h4) q1375 q1376 q1945 q10 q1377 (n9 := 1) rfl ⟨by decide +kernel, by decide +kernel⟩ 0 rfl rfl rfl dX6_readOptionalDays_17 (Nat.le_of_ble_eq_true rfl) ⟨Nat.le_refl _, Nat.le_refl _⟩ (fun w : va_W => w) jFr_id rfl rfl (fun v w hvw => ?_)
    obtain ⟨rfl, rfl⟩ := hvw
    change J X 0 0 (wP t ad o p_text p_length u1.2 p_count p_kinds u3.1 u3.2) 20 [(0, .ref (ad o))] []
    refine j_iconst hX 1 dX6_readOptionalDays_20 (by decide) ?_
    cases hf
    exact j_zret hX hE rfl dX6_readOptionalDays_21 (Nat.le_refl _) (Nat.le_refl _) ⟨rfl, rfl⟩
  · refine j_aload_n hX dX6_readOptionalDays_9 rfl 0 rfl ?_
    refine j_iconst hX 3 dX6_readOptionalDays_10 (by decide) ?_
    obtain ⟨u5, h6, hf⟩ := jbind hf
    refine j_callV (st := []) hX (k_X6_readNumber (l := l) (D := D) (t := t) (ad := ad) (o := o) p_text p_length u1.2 p_count p_kinds p_arguments p_argumentCount 3 u5 h6) q1369 q1370 q1943 q10 q1371 (n9 := 1) rfl ⟨by decide +kernel, by decide +kernel⟩ 0 rfl rfl rfl dX6_readOptionalDays_11 (Nat.le_of_ble_eq_true rfl) ⟨Nat.le_refl _, Nat.le_refl _⟩ (fun w : va_W => w) jFr_id rfl rfl (fun v w hvw => ?_)
    obtain ⟨rfl, rfl⟩ := hvw
    change J X 0 0 (wP t ad o p_text p_length u5.2.1 p_count p_kinds u5.2.2.1 u5.2.2.2) 14 [(0, .ref (ad o))] [.int u5.1]
    obtain ⟨c14, hf⟩ := jif hf
    cases hf
    exact j_zret hX hE (jz_n c14) dX6_readOptionalDays_14 (Nat.le_refl _) (Nat.le_refl _) ⟨rfl, rfl⟩

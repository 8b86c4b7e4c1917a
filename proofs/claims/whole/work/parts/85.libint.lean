-- java/lang/Integer stringSize (I)I
def f_J6_stringSize_0f7a4_L16 (x1 : Int32) (x0 : Int32) : Nat → Int32 → Int32 → Option ((Int32) ⊕ (Int32 × Int32))
  | 0, _, _ => none
  | jn + 1, x3, x2 =>
    if 10 ≤ x3 then
      some (.inr (x3, x2))
    else
      if x0 ≤ x2 then
        f_J6_stringSize_0f7a4_L16 x1 x0 jn (x3 + 1) ((10 : Int32) * x2)
      else
        some (.inl (x3 + x1))
def f_J6_stringSize_0f7a4 (a0 : Int32) : Option (Int32) :=
  if a0 < 0 then
    Option.bind (f_J6_stringSize_0f7a4_L16 1 a0 jFU 1 (-10)) (fun o1 => Sum.elim (fun r => some r) (fun s2 =>
      some ((10 : Int32) + 1)) o1)
  else
    Option.bind (f_J6_stringSize_0f7a4_L16 0 (-a0) jFU 1 (-10)) (fun o4 => Sum.elim (fun r => some r) (fun s5 =>
      some ((10 : Int32) + 0)) o4)
set_option maxHeartbeats 4000000 in
set_option maxRecDepth 100000 in
theorem k_J6_stringSize_0f7a4_L16 {l : Launch} {D : va_G} {t : Nat → ClassId} {ad : Nat → Nat} (x1 : Int32) (x0 : Int32)  {X : jX} (hX : jOK X l D (jT t) cJ6_stringSize_0f7a4 RJ6 (some FieldType.int) { frames := 0, cells := 0, slots := 0, locals := 0 } 4) {PP : Option Value → va_W → Prop} (hE : jEnd X PP 0 0) :
    ∀ (jn : Nat) (x3 : Int32) (x2 : Int32) (u : (Int32) ⊕ (Int32 × Int32)) (hf : f_J6_stringSize_0f7a4_L16 x1 x0 jn x3 x2 = some u) (kx : ∀ s : Int32 × Int32, u = .inr s → J X 0 0 ([]) 42 [(3, .int s.1), (2, .int s.2), (1, .int x1), (0, .int x0)] []) (kr : ∀ r : Int32, u = .inl r → PP (some (.int r)) ([])), J X 0 0 ([]) 16 [(3, .int x3), (2, .int x2), (1, .int x1), (0, .int x0)] [] := by
  intro jn
  induction jn with
  | zero => intro x3 x2 u hf; cases (show (none : Option ((Int32) ⊕ (Int32 × Int32))) = some u from hf)
  | succ jn ih =>
    intro x3 x2 u hf kx kr
    unfold f_J6_stringSize_0f7a4_L16 at hf
    refine j_iload_n hX dJ6_stringSize_0f7a4_16 rfl 0 rfl ?_
    refine j_bipush hX 10 dJ6_stringSize_0f7a4_17 (by decide) ?_
    refine j_icmp_ge hX 42 dJ6_stringSize_0f7a4_19 (by decide) hf (fun c19 hf => ?_) (fun c19 hf => ?_)
    · cases hf
      exact kx _ rfl
    · refine j_iload_n hX dJ6_stringSize_0f7a4_22 rfl 3 rfl ?_
      refine j_iload_n hX dJ6_stringSize_0f7a4_23 rfl 1 rfl ?_
      refine j_icmp_le hX 31 dJ6_stringSize_0f7a4_24 (by decide) hf (fun c24 hf => ?_) (fun c24 hf => ?_)
      · refine j_bipush hX 10 dJ6_stringSize_0f7a4_31 (by decide) ?_
        refine j_iload_n hX dJ6_stringSize_0f7a4_33 rfl 1 rfl ?_
        refine j_imul hX dJ6_stringSize_0f7a4_34 ?_
        refine j_istore_n hX [(2, .int ((10 : Int32) * x2)), (3, .int x3), (1, .int x1), (0, .int x0)] dJ6_stringSize_0f7a4_35 rfl (by decide) rfl ?_
        refine j_iinc hX (x3 + 1) [(3, .int (x3 + 1)), (2, .int ((10 : Int32) * x2)), (1, .int x1), (0, .int x0)] dJ6_stringSize_0f7a4_36 1 rfl rfl (by decide) rfl ?_
        refine j_goto hX 16 dJ6_stringSize_0f7a4_39 (by decide) ?_
        exact ih (x3 + 1) ((10 : Int32) * x2) u hf kx kr
      · refine j_iload_n hX dJ6_stringSize_0f7a4_27 rfl 0 rfl ?_
        refine j_iload_n hX dJ6_stringSize_0f7a4_28 rfl 2 rfl ?_
        refine j_iadd hX dJ6_stringSize_0f7a4_29 ?_
        cases hf
        exact j_iret hX hE dJ6_stringSize_0f7a4_30 (Nat.le_refl _) (Nat.le_refl _) (kr _ rfl)
set_option maxHeartbeats 4000000 in
set_option maxRecDepth 100000 in
theorem k_J6_stringSize_0f7a4 {l : Launch} {D : va_G} {t : Nat → ClassId} {ad : Nat → Nat}  (a0 : Int32) (u : Int32) (hf : f_J6_stringSize_0f7a4 a0 = some u) : cm l D (jT t) yJ6_stringSize_0f7a4 cJ6_stringSize_0f7a4 4 (some FieldType.int) { frames := 0, cells := 0, slots := 0, locals := 0 } [.int a0] ([]) (fun v w => v = (some (.int u)) ∧ w = []) := by
  refine cm_of RJ6 rfl (by decide +kernel) (Nat.le_of_ble_eq_true rfl) (fun X hX hE => ?_)
  change J X 0 0 ([]) 0 [(0, .int a0)] []
  unfold f_J6_stringSize_0f7a4 at hf
  refine j_iconst hX 1 dJ6_stringSize_0f7a4_0 (by decide) ?_
  refine j_istore_n hX [(1, .int 1), (0, .int a0)] dJ6_stringSize_0f7a4_1 rfl (by decide) rfl ?_
  refine j_iload_n hX dJ6_stringSize_0f7a4_2 rfl 1 rfl ?_
  refine j_if_lt hX 11 dJ6_stringSize_0f7a4_3 (by decide) hf (fun c3 hf => ?_) (fun c3 hf => ?_)
  · refine j_bipush hX (-10) dJ6_stringSize_0f7a4_11 (by decide) ?_
    refine j_istore_n hX [(2, .int (-10)), (1, .int 1), (0, .int a0)] dJ6_stringSize_0f7a4_13 rfl (by decide) rfl ?_
    refine j_iconst hX 1 dJ6_stringSize_0f7a4_14 (by decide) ?_
    refine j_istore_n hX [(3, .int 1), (2, .int (-10)), (1, .int 1), (0, .int a0)] dJ6_stringSize_0f7a4_15 rfl (by decide) rfl ?_
    obtain ⟨o1, h3, hf⟩ := jbind hf
    refine k_J6_stringSize_0f7a4_L16 (ad := ad) 1 a0  hX hE jFU 1 (-10) o1 h3 (fun s2 es2 => ?_) (fun r er => ?_)
    · subst es2
      have hf := jsum_r hf
      refine j_bipush hX 10 dJ6_stringSize_0f7a4_42 (by decide) ?_
      refine j_iload_n hX dJ6_stringSize_0f7a4_44 rfl 2 rfl ?_
      refine j_iadd hX dJ6_stringSize_0f7a4_45 ?_
      cases hf
      exact j_iret hX hE dJ6_stringSize_0f7a4_46 (Nat.le_refl _) (Nat.le_refl _) ⟨rfl, rfl⟩
    · subst er
      cases hf
      exact ⟨rfl, rfl⟩
  · refine j_iconst hX 0 dJ6_stringSize_0f7a4_6 (by decide) ?_
    refine j_istore_n hX [(1, .int 0), (0, .int a0)] dJ6_stringSize_0f7a4_7 rfl (by decide) rfl ?_
    refine j_iload_n hX dJ6_stringSize_0f7a4_8 rfl 1 rfl ?_
    refine j_ineg hX dJ6_stringSize_0f7a4_9 ?_
    refine j_istore_n hX [(0, .int (-a0)), (1, .int 0)] dJ6_stringSize_0f7a4_10 rfl (by decide) rfl ?_
    refine j_bipush hX (-10) dJ6_stringSize_0f7a4_11 (by decide) ?_
    refine j_istore_n hX [(2, .int (-10)), (0, .int (-a0)), (1, .int 0)] dJ6_stringSize_0f7a4_13 rfl (by decide) rfl ?_
    refine j_iconst hX 1 dJ6_stringSize_0f7a4_14 (by decide) ?_
    refine j_istore_n hX [(3, .int 1), (2, .int (-10)), (0, .int (-a0)), (1, .int 0)] dJ6_stringSize_0f7a4_15 rfl (by decide) rfl ?_
    obtain ⟨o4, h6, hf⟩ := jbind hf
    refine j_sub hX [(3, .int 1), (2, .int (-10)), (1, .int 0), (0, .int (-a0))] [0, 1, 3, 2] rfl ?_
    refine k_J6_stringSize_0f7a4_L16 (ad := ad) 0 (-a0)  hX hE jFU 1 (-10) o4 h6 (fun s5 es5 => ?_) (fun r er => ?_)
    · subst es5
      have hf := jsum_r hf
      refine j_bipush hX 10 dJ6_stringSize_0f7a4_42 (by decide) ?_
      refine j_iload_n hX dJ6_stringSize_0f7a4_44 rfl 2 rfl ?_
      refine j_iadd hX dJ6_stringSize_0f7a4_45 ?_
      cases hf
      exact j_iret hX hE dJ6_stringSize_0f7a4_46 (Nat.le_refl _) (Nat.le_refl _) ⟨rfl, rfl⟩
    · subst er
      cases hf
      exact ⟨rfl, rfl⟩
-- java/lang/Integer getChars (II[B)I
def f_J6_getChars_ba4f3_L22 (n2 : Nat) : Nat → Int32 → Int32 → (Nat → Int32) → Option (Int32 × Int32 × (Nat → Int32))
  | 0, _, _, _ => none
  | jn + 1, x0, x5, v2 =>
    if (-100) < x0 then
      some (x0, x5, v2)
    else
      if jin (((x0 / 100) * 100) - x0) 100 = true then
        if jin (x5 + (-1)) n2 = true then
          if jin (((x0 / 100) * 100) - x0) 100 = true then
            if jin ((x5 + (-1)) + (-1)) n2 = true then
              f_J6_getChars_ba4f3_L22 n2 jn (x0 / 100) ((x5 + (-1)) + (-1)) (upd (upd v2 (x5 + (-1)).toNatClampNeg (vp_nar .byte (jOnesI (((x0 / 100) * 100) - x0).toNatClampNeg))) ((x5 + (-1)) + (-1)).toNatClampNeg (vp_nar .byte (jTensI (((x0 / 100) * 100) - x0).toNatClampNeg)))
            else none
          else none
        else none
      else none
def f_J6_getChars_ba4f3 (n2 : Nat) (v2 : Nat → Int32) (a0 : Int32) (a1 : Int32) : Option (Int32 × (Nat → Int32)) :=
  if 0 ≤ a0 then
    Option.bind (f_J6_getChars_ba4f3_L22 n2 jFU (-a0) a1 v2) (fun s2 =>
      if jin (-s2.1) 100 = true then
        if jin (s2.2.1 + (-1)) n2 = true then
          if (-9) ≤ s2.1 then
            some (s2.2.1 + (-1), upd s2.2.2 (s2.2.1 + (-1)).toNatClampNeg (vp_nar .byte (jOnesI (-s2.1).toNatClampNeg)))
          else
            if jin (-s2.1) 100 = true then
              if jin ((s2.2.1 + (-1)) + (-1)) n2 = true then
                some ((s2.2.1 + (-1)) + (-1), upd (upd s2.2.2 (s2.2.1 + (-1)).toNatClampNeg (vp_nar .byte (jOnesI (-s2.1).toNatClampNeg))) ((s2.2.1 + (-1)) + (-1)).toNatClampNeg (vp_nar .byte (jTensI (-s2.1).toNatClampNeg)))
              else none
            else none
        else none
      else none)
  else
    Option.bind (f_J6_getChars_ba4f3_L22 n2 jFU a0 a1 v2) (fun s5 =>
      if jin (-s5.1) 100 = true then
        if jin (s5.2.1 + (-1)) n2 = true then
          if (-9) ≤ s5.1 then
            if jin ((s5.2.1 + (-1)) + (-1)) n2 = true then
              some ((s5.2.1 + (-1)) + (-1), upd (upd s5.2.2 (s5.2.1 + (-1)).toNatClampNeg (vp_nar .byte (jOnesI (-s5.1).toNatClampNeg))) ((s5.2.1 + (-1)) + (-1)).toNatClampNeg (vp_nar .byte 45))
            else none
          else
            if jin (-s5.1) 100 = true then
              if jin ((s5.2.1 + (-1)) + (-1)) n2 = true then
                if jin (((s5.2.1 + (-1)) + (-1)) + (-1)) n2 = true then
                  some (((s5.2.1 + (-1)) + (-1)) + (-1), upd (upd (upd s5.2.2 (s5.2.1 + (-1)).toNatClampNeg (vp_nar .byte (jOnesI (-s5.1).toNatClampNeg))) ((s5.2.1 + (-1)) + (-1)).toNatClampNeg (vp_nar .byte (jTensI (-s5.1).toNatClampNeg))) (((s5.2.1 + (-1)) + (-1)) + (-1)).toNatClampNeg (vp_nar .byte 45))
                else none
              else none
            else none
        else none
      else none)
set_option maxHeartbeats 4000000 in
set_option maxRecDepth 100000 in
theorem k_J6_getChars_ba4f3_L22 {l : Launch} {D : va_G} {t : Nat → ClassId} {ad : Nat → Nat} {o : Nat} (n2 : Nat) (x6 : Int32) (x1 : Int32) {X : jX} (hX : jOK X l D (jT t) cJ6_getChars_ba4f3 RJ6 (some FieldType.int) { frames := 0, cells := 0, slots := 0, locals := 0 } 7) :
    ∀ (jn : Nat) (x0 : Int32) (x5 : Int32) (v2 : Nat → Int32) (u : Int32 × Int32 × (Nat → Int32)) (hf : f_J6_getChars_ba4f3_L22 n2 jn x0 x5 v2 = some u) (kx : ∀ s : Int32 × Int32 × (Nat → Int32), u = s → J X 0 0 ([(ad (o), .inl (t 2, n2, .inl s.2.2))]) 72 [(0, .int s.1), (6, .int x6), (5, .int s.2.1), (1, .int x1), (2, .ref (ad o))] []), J X 0 0 ([(ad (o), .inl (t 2, n2, .inl v2))]) 22 [(0, .int x0), (6, .int x6), (5, .int x5), (1, .int x1), (2, .ref (ad o))] [] := by
  intro jn
  induction jn with
  | zero => intro x0 x5 v2 u hf; cases (show (none : Option (Int32 × Int32 × (Nat → Int32))) = some u from hf)
  | succ jn ih =>
    intro x0 x5 v2 u hf kx
    unfold f_J6_getChars_ba4f3_L22 at hf
    refine j_iload_n hX dJ6_getChars_ba4f3_22 rfl 0 rfl ?_
    refine j_bipush hX (-100) dJ6_getChars_ba4f3_23 (by decide) ?_
    refine j_icmp_gt hX 72 dJ6_getChars_ba4f3_25 (by decide) hf (fun c25 hf => ?_) (fun c25 hf => ?_)
    · cases hf
      exact kx _ rfl
    · refine j_iload_n hX dJ6_getChars_ba4f3_28 rfl 0 rfl ?_
      refine j_bipush hX 100 dJ6_getChars_ba4f3_29 (by decide) ?_
      refine j_idiv hX dJ6_getChars_ba4f3_31 (by decide) ?_
      refine j_istore_n hX [(3, .int (x0 / 100)), (0, .int x0), (6, .int x6), (5, .int x5), (1, .int x1), (2, .ref (ad o))] dJ6_getChars_ba4f3_32 rfl (by decide) rfl ?_
      refine j_iload_n hX dJ6_getChars_ba4f3_33 rfl 0 rfl ?_
      refine j_bipush hX 100 dJ6_getChars_ba4f3_34 (by decide) ?_
      refine j_imul hX dJ6_getChars_ba4f3_36 ?_
      refine j_iload_n hX dJ6_getChars_ba4f3_37 rfl 1 rfl ?_
      refine j_isub hX dJ6_getChars_ba4f3_38 ?_
      refine j_istore hX [(4, .int (((x0 / 100) * 100) - x0)), (3, .int (x0 / 100)), (0, .int x0), (6, .int x6), (5, .int x5), (1, .int x1), (2, .ref (ad o))] dJ6_getChars_ba4f3_39 (by decide) rfl ?_
      refine j_iload_n hX dJ6_getChars_ba4f3_41 rfl 1 rfl ?_
      refine j_istore_n hX [(0, .int (x0 / 100)), (4, .int (((x0 / 100) * 100) - x0)), (3, .int (x0 / 100)), (6, .int x6), (5, .int x5), (1, .int x1), (2, .ref (ad o))] dJ6_getChars_ba4f3_42 rfl (by decide) rfl ?_
      refine j_aload_n hX dJ6_getChars_ba4f3_43 rfl 6 rfl ?_
      refine j_iinc hX (x5 + (-1)) [(5, .int (x5 + (-1))), (0, .int (x0 / 100)), (4, .int (((x0 / 100) * 100) - x0)), (3, .int (x0 / 100)), (6, .int x6), (1, .int x1), (2, .ref (ad o))] dJ6_getChars_ba4f3_44 4 rfl rfl (by decide) rfl ?_
      refine j_iload hX dJ6_getChars_ba4f3_47 0 rfl ?_
      refine j_tab hX j_ones q1178 dJ6_getChars_ba4f3_49 (fun z49 hz_z49 => ?_)
      refine j_iload hX dJ6_getChars_ba4f3_52 2 rfl ?_
      refine j_tabld hX hz_z49 dJ6_getChars_ba4f3_54 hf (fun c54 hf => ?_)
      refine j_bast hX ([(ad (o), .inl (t 2, n2, .inl (upd v2 (x5 + (-1)).toNatClampNeg (vp_nar .byte (jOnesI (((x0 / 100) * 100) - x0).toNatClampNeg)))))]) dJ6_getChars_ba4f3_55 0 2 rfl rfl rfl hf (fun c55 hf => ?_)
      refine j_aload_n hX dJ6_getChars_ba4f3_56 rfl 6 rfl ?_
      refine j_iinc hX ((x5 + (-1)) + (-1)) [(5, .int ((x5 + (-1)) + (-1))), (0, .int (x0 / 100)), (4, .int (((x0 / 100) * 100) - x0)), (3, .int (x0 / 100)), (6, .int x6), (1, .int x1), (2, .ref (ad o))] dJ6_getChars_ba4f3_57 0 rfl rfl (by decide) rfl ?_
      refine j_iload hX dJ6_getChars_ba4f3_60 0 rfl ?_
      refine j_tab hX j_tens q1179 dJ6_getChars_ba4f3_62 (fun z62 hz_z62 => ?_)
      refine j_iload hX dJ6_getChars_ba4f3_65 2 rfl ?_
      refine j_tabld hX hz_z62 dJ6_getChars_ba4f3_67 hf (fun c67 hf => ?_)
      refine j_bast hX ([(ad (o), .inl (t 2, n2, .inl (upd (upd v2 (x5 + (-1)).toNatClampNeg (vp_nar .byte (jOnesI (((x0 / 100) * 100) - x0).toNatClampNeg))) ((x5 + (-1)) + (-1)).toNatClampNeg (vp_nar .byte (jTensI (((x0 / 100) * 100) - x0).toNatClampNeg)))))]) dJ6_getChars_ba4f3_68 0 2 rfl rfl rfl hf (fun c68 hf => ?_)
      refine j_goto hX 22 dJ6_getChars_ba4f3_69 (by decide) ?_
      refine j_sub hX [(0, .int (x0 / 100)), (6, .int x6), (5, .int ((x5 + (-1)) + (-1))), (1, .int x1), (2, .ref (ad o))] [1, 4, 0, 5, 6] rfl ?_
      exact ih (x0 / 100) ((x5 + (-1)) + (-1)) (upd (upd v2 (x5 + (-1)).toNatClampNeg (vp_nar .byte (jOnesI (((x0 / 100) * 100) - x0).toNatClampNeg))) ((x5 + (-1)) + (-1)).toNatClampNeg (vp_nar .byte (jTensI (((x0 / 100) * 100) - x0).toNatClampNeg))) u hf kx
set_option maxHeartbeats 4000000 in
set_option maxRecDepth 100000 in
theorem k_J6_getChars_ba4f3 {l : Launch} {D : va_G} {t : Nat → ClassId} {ad : Nat → Nat} {o : Nat} (n2 : Nat) (v2 : Nat → Int32) (a0 : Int32) (a1 : Int32) (u : Int32 × (Nat → Int32)) (hf : f_J6_getChars_ba4f3 n2 v2 a0 a1 = some u) : cm l D (jT t) yJ6_getChars_ba4f3 cJ6_getChars_ba4f3 7 (some FieldType.int) { frames := 0, cells := 0, slots := 0, locals := 0 } [.int a0, .int a1, .ref (ad o)] ([(ad (o), .inl (t 2, n2, .inl v2))]) (fun v w => v = (some (.int u.1)) ∧ w = [(ad (o), .inl (t 2, n2, .inl u.2))]) := by
  refine cm_of RJ6 rfl (by decide +kernel) (Nat.le_of_ble_eq_true rfl) (fun X hX hE => ?_)
  change J X 0 0 ([(ad (o), .inl (t 2, n2, .inl v2))]) 0 [(0, .int a0), (1, .int a1), (2, .ref (ad o))] []
  unfold f_J6_getChars_ba4f3 at hf
  refine j_iload_n hX dJ6_getChars_ba4f3_0 rfl 1 rfl ?_
  refine j_istore hX [(5, .int a1), (0, .int a0), (1, .int a1), (2, .ref (ad o))] dJ6_getChars_ba4f3_1 (by decide) rfl ?_
  refine j_iload_n hX dJ6_getChars_ba4f3_3 rfl 1 rfl ?_
  refine j_if_ge hX 11 dJ6_getChars_ba4f3_4 (by decide) hf (fun c4 hf => ?_) (fun c4 hf => ?_)
  · refine j_iconst hX 0 dJ6_getChars_ba4f3_11 (by decide) ?_
    refine j_istore hX [(6, .int 0), (5, .int a1), (0, .int a0), (1, .int a1), (2, .ref (ad o))] dJ6_getChars_ba4f3_12 (by decide) rfl ?_
    refine j_iload hX dJ6_getChars_ba4f3_14 0 rfl ?_
    refine j_if_ne (α := Unit) (F := none) (G := none) (o := none) hX 22 dJ6_getChars_ba4f3_16 (by decide) (ite_self none) (fun c16 _ => absurd c16 (by decide)) (fun c16 _ => ?_)
    refine j_iload_n hX dJ6_getChars_ba4f3_19 rfl 2 rfl ?_
    refine j_ineg hX dJ6_getChars_ba4f3_20 ?_
    refine j_istore_n hX [(0, .int (-a0)), (6, .int 0), (5, .int a1), (1, .int a1), (2, .ref (ad o))] dJ6_getChars_ba4f3_21 rfl (by decide) rfl ?_
    obtain ⟨s2, h3, hf⟩ := jbind hf
    refine k_J6_getChars_ba4f3_L22 (ad := ad) n2 0 a1 hX jFU (-a0) a1 v2 s2 h3 (fun s20 es2 => ?_)
    subst es2
    refine j_aload_n hX dJ6_getChars_ba4f3_72 rfl 4 rfl ?_
    refine j_iinc hX (s2.2.1 + (-1)) [(5, .int (s2.2.1 + (-1))), (0, .int s2.1), (6, .int 0), (1, .int a1), (2, .ref (ad o))] dJ6_getChars_ba4f3_73 2 rfl rfl (by decide) rfl ?_
    refine j_iload hX dJ6_getChars_ba4f3_76 0 rfl ?_
    refine j_tab hX j_ones q1178 dJ6_getChars_ba4f3_78 (fun z78 hz_z78 => ?_)
    refine j_iload_n hX dJ6_getChars_ba4f3_81 rfl 1 rfl ?_
    refine j_ineg hX dJ6_getChars_ba4f3_82 ?_
    refine j_tabld hX hz_z78 dJ6_getChars_ba4f3_83 hf (fun c83 hf => ?_)
    refine j_bast hX ([(ad (o), .inl (t 2, n2, .inl (upd s2.2.2 (s2.2.1 + (-1)).toNatClampNeg (vp_nar .byte (jOnesI (-s2.1).toNatClampNeg)))))]) dJ6_getChars_ba4f3_84 0 2 rfl rfl rfl hf (fun c84 hf => ?_)
    refine j_iload_n hX dJ6_getChars_ba4f3_85 rfl 1 rfl ?_
    refine j_bipush hX (-9) dJ6_getChars_ba4f3_86 (by decide) ?_
    refine j_icmp_ge hX 104 dJ6_getChars_ba4f3_88 (by decide) hf (fun c88 hf => ?_) (fun c88 hf => ?_)
    · refine j_iload hX dJ6_getChars_ba4f3_104 2 rfl ?_
      refine j_if_eq (α := Unit) (F := none) (G := none) (o := none) hX 118 dJ6_getChars_ba4f3_106 (by decide) (ite_self none) (fun c106 _ => ?_) (fun c106 _ => absurd c106 (by decide))
      refine j_iload hX dJ6_getChars_ba4f3_118 0 rfl ?_
      have hf9 := Option.some.inj hf
      subst hf9
      exact j_iret hX hE dJ6_getChars_ba4f3_120 (Nat.le_refl _) (Nat.le_refl _) ⟨rfl, rfl⟩
    · refine j_aload_n hX dJ6_getChars_ba4f3_91 rfl 4 rfl ?_
      refine j_iinc hX ((s2.2.1 + (-1)) + (-1)) [(5, .int ((s2.2.1 + (-1)) + (-1))), (0, .int s2.1), (6, .int 0), (1, .int a1), (2, .ref (ad o))] dJ6_getChars_ba4f3_92 0 rfl rfl (by decide) rfl ?_
      refine j_iload hX dJ6_getChars_ba4f3_95 0 rfl ?_
      refine j_tab hX j_tens q1179 dJ6_getChars_ba4f3_97 (fun z97 hz_z97 => ?_)
      refine j_iload_n hX dJ6_getChars_ba4f3_100 rfl 1 rfl ?_
      refine j_ineg hX dJ6_getChars_ba4f3_101 ?_
      refine j_tabld hX hz_z97 dJ6_getChars_ba4f3_102 hf (fun c102 hf => ?_)
      refine j_bast hX ([(ad (o), .inl (t 2, n2, .inl (upd (upd s2.2.2 (s2.2.1 + (-1)).toNatClampNeg (vp_nar .byte (jOnesI (-s2.1).toNatClampNeg))) ((s2.2.1 + (-1)) + (-1)).toNatClampNeg (vp_nar .byte (jTensI (-s2.1).toNatClampNeg)))))]) dJ6_getChars_ba4f3_103 0 2 rfl rfl rfl hf (fun c103 hf => ?_)
      refine j_iload hX dJ6_getChars_ba4f3_104 2 rfl ?_
      refine j_if_eq (α := Unit) (F := none) (G := none) (o := none) hX 118 dJ6_getChars_ba4f3_106 (by decide) (ite_self none) (fun c106 _ => ?_) (fun c106 _ => absurd c106 (by decide))
      refine j_iload hX dJ6_getChars_ba4f3_118 0 rfl ?_
      have hf9 := Option.some.inj hf
      subst hf9
      exact j_iret hX hE dJ6_getChars_ba4f3_120 (Nat.le_refl _) (Nat.le_refl _) ⟨rfl, rfl⟩
  · refine j_iconst hX 1 dJ6_getChars_ba4f3_7 (by decide) ?_
    refine j_goto hX 12 dJ6_getChars_ba4f3_8 (by decide) ?_
    refine j_istore hX [(6, .int 1), (5, .int a1), (0, .int a0), (1, .int a1), (2, .ref (ad o))] dJ6_getChars_ba4f3_12 (by decide) rfl ?_
    refine j_iload hX dJ6_getChars_ba4f3_14 0 rfl ?_
    refine j_if_ne (α := Unit) (F := none) (G := none) (o := none) hX 22 dJ6_getChars_ba4f3_16 (by decide) (ite_self none) (fun c16 _ => ?_) (fun c16 _ => absurd c16 (by decide))
    obtain ⟨s5, h6, hf⟩ := jbind hf
    refine j_sub hX [(0, .int a0), (6, .int 1), (5, .int a1), (1, .int a1), (2, .ref (ad o))] [2, 0, 1, 3, 4] rfl ?_
    refine k_J6_getChars_ba4f3_L22 (ad := ad) n2 1 a1 hX jFU a0 a1 v2 s5 h6 (fun s50 es5 => ?_)
    subst es5
    refine j_aload_n hX dJ6_getChars_ba4f3_72 rfl 4 rfl ?_
    refine j_iinc hX (s5.2.1 + (-1)) [(5, .int (s5.2.1 + (-1))), (0, .int s5.1), (6, .int 1), (1, .int a1), (2, .ref (ad o))] dJ6_getChars_ba4f3_73 2 rfl rfl (by decide) rfl ?_
    refine j_iload hX dJ6_getChars_ba4f3_76 0 rfl ?_
    refine j_tab hX j_ones q1178 dJ6_getChars_ba4f3_78 (fun z78 hz_z78 => ?_)
    refine j_iload_n hX dJ6_getChars_ba4f3_81 rfl 1 rfl ?_
    refine j_ineg hX dJ6_getChars_ba4f3_82 ?_
    refine j_tabld hX hz_z78 dJ6_getChars_ba4f3_83 hf (fun c83 hf => ?_)
    refine j_bast hX ([(ad (o), .inl (t 2, n2, .inl (upd s5.2.2 (s5.2.1 + (-1)).toNatClampNeg (vp_nar .byte (jOnesI (-s5.1).toNatClampNeg)))))]) dJ6_getChars_ba4f3_84 0 2 rfl rfl rfl hf (fun c84 hf => ?_)
    refine j_iload_n hX dJ6_getChars_ba4f3_85 rfl 1 rfl ?_
    refine j_bipush hX (-9) dJ6_getChars_ba4f3_86 (by decide) ?_
    refine j_icmp_ge hX 104 dJ6_getChars_ba4f3_88 (by decide) hf (fun c88 hf => ?_) (fun c88 hf => ?_)
    · refine j_iload hX dJ6_getChars_ba4f3_104 2 rfl ?_
      refine j_if_eq (α := Unit) (F := none) (G := none) (o := none) hX 118 dJ6_getChars_ba4f3_106 (by decide) (ite_self none) (fun c106 _ => absurd c106 (by decide)) (fun c106 _ => ?_)
      refine j_aload_n hX dJ6_getChars_ba4f3_109 rfl 4 rfl ?_
      refine j_iinc hX ((s5.2.1 + (-1)) + (-1)) [(5, .int ((s5.2.1 + (-1)) + (-1))), (0, .int s5.1), (6, .int 1), (1, .int a1), (2, .ref (ad o))] dJ6_getChars_ba4f3_110 0 rfl rfl (by decide) rfl ?_
      refine j_iload hX dJ6_getChars_ba4f3_113 0 rfl ?_
      refine j_bipush hX 45 dJ6_getChars_ba4f3_115 (by decide) ?_
      refine j_bast hX ([(ad (o), .inl (t 2, n2, .inl (upd (upd s5.2.2 (s5.2.1 + (-1)).toNatClampNeg (vp_nar .byte (jOnesI (-s5.1).toNatClampNeg))) ((s5.2.1 + (-1)) + (-1)).toNatClampNeg (vp_nar .byte 45))))]) dJ6_getChars_ba4f3_117 0 2 rfl rfl rfl hf (fun c117 hf => ?_)
      refine j_iload hX dJ6_getChars_ba4f3_118 0 rfl ?_
      have hf9 := Option.some.inj hf
      subst hf9
      exact j_iret hX hE dJ6_getChars_ba4f3_120 (Nat.le_refl _) (Nat.le_refl _) ⟨rfl, rfl⟩
    · refine j_aload_n hX dJ6_getChars_ba4f3_91 rfl 4 rfl ?_
      refine j_iinc hX ((s5.2.1 + (-1)) + (-1)) [(5, .int ((s5.2.1 + (-1)) + (-1))), (0, .int s5.1), (6, .int 1), (1, .int a1), (2, .ref (ad o))] dJ6_getChars_ba4f3_92 0 rfl rfl (by decide) rfl ?_
      refine j_iload hX dJ6_getChars_ba4f3_95 0 rfl ?_
      refine j_tab hX j_tens q1179 dJ6_getChars_ba4f3_97 (fun z97 hz_z97 => ?_)
      refine j_iload_n hX dJ6_getChars_ba4f3_100 rfl 1 rfl ?_
      refine j_ineg hX dJ6_getChars_ba4f3_101 ?_
      refine j_tabld hX hz_z97 dJ6_getChars_ba4f3_102 hf (fun c102 hf => ?_)
      refine j_bast hX ([(ad (o), .inl (t 2, n2, .inl (upd (upd s5.2.2 (s5.2.1 + (-1)).toNatClampNeg (vp_nar .byte (jOnesI (-s5.1).toNatClampNeg))) ((s5.2.1 + (-1)) + (-1)).toNatClampNeg (vp_nar .byte (jTensI (-s5.1).toNatClampNeg)))))]) dJ6_getChars_ba4f3_103 0 2 rfl rfl rfl hf (fun c103 hf => ?_)
      refine j_iload hX dJ6_getChars_ba4f3_104 2 rfl ?_
      refine j_if_eq (α := Unit) (F := none) (G := none) (o := none) hX 118 dJ6_getChars_ba4f3_106 (by decide) (ite_self none) (fun c106 _ => absurd c106 (by decide)) (fun c106 _ => ?_)
      refine j_aload_n hX dJ6_getChars_ba4f3_109 rfl 4 rfl ?_
      refine j_iinc hX (((s5.2.1 + (-1)) + (-1)) + (-1)) [(5, .int (((s5.2.1 + (-1)) + (-1)) + (-1))), (0, .int s5.1), (6, .int 1), (1, .int a1), (2, .ref (ad o))] dJ6_getChars_ba4f3_110 0 rfl rfl (by decide) rfl ?_
      refine j_iload hX dJ6_getChars_ba4f3_113 0 rfl ?_
      refine j_bipush hX 45 dJ6_getChars_ba4f3_115 (by decide) ?_
      refine j_bast hX ([(ad (o), .inl (t 2, n2, .inl (upd (upd (upd s5.2.2 (s5.2.1 + (-1)).toNatClampNeg (vp_nar .byte (jOnesI (-s5.1).toNatClampNeg))) ((s5.2.1 + (-1)) + (-1)).toNatClampNeg (vp_nar .byte (jTensI (-s5.1).toNatClampNeg))) (((s5.2.1 + (-1)) + (-1)) + (-1)).toNatClampNeg (vp_nar .byte 45))))]) dJ6_getChars_ba4f3_117 0 2 rfl rfl rfl hf (fun c117 hf => ?_)
      refine j_iload hX dJ6_getChars_ba4f3_118 0 rfl ?_
      have hf9 := Option.some.inj hf
      subst hf9
      exact j_iret hX hE dJ6_getChars_ba4f3_120 (Nat.le_refl _) (Nat.le_refl _) ⟨rfl, rfl⟩

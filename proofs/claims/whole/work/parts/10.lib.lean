-- java/lang/Integer bitCount (I)I
def f_J6_bitCount_0f7a4 (a0 : Int32) : Option (Int32) :=
  jlet (a0 - ((((a0).toUInt32 >>> ((1).toUInt32 &&& Int32.toUInt32 31)).toInt32) &&& 1431655765)) (fun y9_0 =>
    jlet ((y9_0 &&& 858993459) + ((((y9_0).toUInt32 >>> ((2).toUInt32 &&& Int32.toUInt32 31)).toInt32) &&& 858993459)) (fun y23_1 =>
      jlet ((y23_1 + (((y23_1).toUInt32 >>> ((4).toUInt32 &&& Int32.toUInt32 31)).toInt32)) &&& 252645135) (fun y33_2 =>
        jlet (y33_2 + (((y33_2).toUInt32 >>> ((8).toUInt32 &&& Int32.toUInt32 31)).toInt32)) (fun y40_3 =>
          jlet (y40_3 + (((y40_3).toUInt32 >>> ((16).toUInt32 &&& Int32.toUInt32 31)).toInt32)) (fun y47_4 =>
            some (y47_4 &&& 63))))))
set_option maxHeartbeats 4000000 in
set_option maxRecDepth 100000 in
theorem k_J6_bitCount_0f7a4 {l : Launch} {D : va_G} {t : Nat → ClassId} {ad : Nat → Nat}  (a0 : Int32) (u : Int32) (hf : f_J6_bitCount_0f7a4 a0 = some u) : cm l D (jT t) yJ6_bitCount_0f7a4 cJ6_bitCount_0f7a4 1 (some FieldType.int) { frames := 0, cells := 0, slots := 0, locals := 0 } [.int a0] ([]) (fun v w => v = (some (.int u)) ∧ w = []) := by
  refine cm_of RJ6 rfl (by decide +kernel) (Nat.le_of_ble_eq_true rfl) (fun X hX hE => ?_)
  change J X 0 0 ([]) 0 [(0, .int a0)] []
  unfold f_J6_bitCount_0f7a4 at hf
  refine j_iload_n hX dJ6_bitCount_0f7a4_0 rfl 0 rfl ?_
  refine j_iload_n hX dJ6_bitCount_0f7a4_1 rfl 0 rfl ?_
  refine j_iconst hX 1 dJ6_bitCount_0f7a4_2 (by decide) ?_
  refine j_iushr hX dJ6_bitCount_0f7a4_3 ?_
  refine j_ldcw hX q452 dJ6_bitCount_0f7a4_4 ?_
  refine j_iand hX dJ6_bitCount_0f7a4_7 ?_
  refine j_isub hX dJ6_bitCount_0f7a4_8 ?_
  refine j_let hX hf (fun y9_0 ey9_0 hf => ?_)
  refine j_istore_n hX [(0, .int y9_0)] dJ6_bitCount_0f7a4_9 rfl (by decide) rfl ?_
  refine j_iload_n hX dJ6_bitCount_0f7a4_10 rfl 0 rfl ?_
  refine j_ldcw hX q453 dJ6_bitCount_0f7a4_11 ?_
  refine j_iand hX dJ6_bitCount_0f7a4_14 ?_
  refine j_iload_n hX dJ6_bitCount_0f7a4_15 rfl 0 rfl ?_
  refine j_iconst hX 2 dJ6_bitCount_0f7a4_16 (by decide) ?_
  refine j_iushr hX dJ6_bitCount_0f7a4_17 ?_
  refine j_ldcw hX q453 dJ6_bitCount_0f7a4_18 ?_
  refine j_iand hX dJ6_bitCount_0f7a4_21 ?_
  refine j_iadd hX dJ6_bitCount_0f7a4_22 ?_
  refine j_let hX hf (fun y23_1 ey23_1 hf => ?_)
  refine j_istore_n hX [(0, .int y23_1)] dJ6_bitCount_0f7a4_23 rfl (by decide) rfl ?_
  refine j_iload_n hX dJ6_bitCount_0f7a4_24 rfl 0 rfl ?_
  refine j_iload_n hX dJ6_bitCount_0f7a4_25 rfl 0 rfl ?_
  refine j_iconst hX 4 dJ6_bitCount_0f7a4_26 (by decide) ?_
  refine j_iushr hX dJ6_bitCount_0f7a4_27 ?_
  refine j_iadd hX dJ6_bitCount_0f7a4_28 ?_
  refine j_ldcw hX q454 dJ6_bitCount_0f7a4_29 ?_
  refine j_iand hX dJ6_bitCount_0f7a4_32 ?_
  refine j_let hX hf (fun y33_2 ey33_2 hf => ?_)
  refine j_istore_n hX [(0, .int y33_2)] dJ6_bitCount_0f7a4_33 rfl (by decide) rfl ?_
  refine j_iload_n hX dJ6_bitCount_0f7a4_34 rfl 0 rfl ?_
  refine j_iload_n hX dJ6_bitCount_0f7a4_35 rfl 0 rfl ?_
  refine j_bipush hX 8 dJ6_bitCount_0f7a4_36 (by decide) ?_
  refine j_iushr hX dJ6_bitCount_0f7a4_38 ?_
  refine j_iadd hX dJ6_bitCount_0f7a4_39 ?_
  refine j_let hX hf (fun y40_3 ey40_3 hf => ?_)
  refine j_istore_n hX [(0, .int y40_3)] dJ6_bitCount_0f7a4_40 rfl (by decide) rfl ?_
  refine j_iload_n hX dJ6_bitCount_0f7a4_41 rfl 0 rfl ?_
  refine j_iload_n hX dJ6_bitCount_0f7a4_42 rfl 0 rfl ?_
  refine j_bipush hX 16 dJ6_bitCount_0f7a4_43 (by decide) ?_
  refine j_iushr hX dJ6_bitCount_0f7a4_45 ?_
  refine j_iadd hX dJ6_bitCount_0f7a4_46 ?_
  refine j_let hX hf (fun y47_4 ey47_4 hf => ?_)
  refine j_istore_n hX [(0, .int y47_4)] dJ6_bitCount_0f7a4_47 rfl (by decide) rfl ?_
  refine j_iload_n hX dJ6_bitCount_0f7a4_48 rfl 0 rfl ?_
  refine j_bipush hX 63 dJ6_bitCount_0f7a4_49 (by decide) ?_
  refine j_iand hX dJ6_bitCount_0f7a4_51 ?_
  cases hf
  exact j_iret hX hE dJ6_bitCount_0f7a4_52 (Nat.le_refl _) (Nat.le_refl _) ⟨rfl, rfl⟩
-- java/util/Arrays fill ([II)V
def f_J7_fill_53178_L5 (n0 : Nat) (x3 : Int32) (x1 : Int32) : Nat → Int32 → (Nat → Int32) → Option (Int32 × (Nat → Int32))
  | 0, _, _ => none
  | jn + 1, x2, v0 =>
    if x3 ≤ x2 then
      some (x2, v0)
    else
      if jin x2 n0 = true then
        f_J7_fill_53178_L5 n0 x3 x1 jn (x2 + 1) (upd v0 (x2).toNatClampNeg x1)
      else none
def f_J7_fill_53178 (n0 : Nat) (v0 : Nat → Int32) (a1 : Int32) : Option ((Nat → Int32)) :=
  Option.bind (f_J7_fill_53178_L5 n0 (Int32.ofNat n0) a1 jFU 0 v0) (fun s2 =>
    some s2.2)
set_option maxHeartbeats 4000000 in
set_option maxRecDepth 100000 in
theorem k_J7_fill_53178_L5 {l : Launch} {D : va_G} {t : Nat → ClassId} {ad : Nat → Nat} {o : Nat} (n0 : Nat) (x3 : Int32) (x1 : Int32)  {X : jX} (hX : jOK X l D (jT t) cJ7_fill_53178 RJ7 none { frames := 0, cells := 0, slots := 0, locals := 0 } 4) :
    ∀ (jn : Nat) (x2 : Int32) (v0 : Nat → Int32) (u : Int32 × (Nat → Int32)) (hf : f_J7_fill_53178_L5 n0 x3 x1 jn x2 v0 = some u) (kx : ∀ s : Int32 × (Nat → Int32), u = s → J X 0 0 ([(ad (o), .inl (t 0, n0, .inl s.2))]) 20 [(3, .int x3), (2, .int s.1), (0, .ref (ad o)), (1, .int x1)] []), J X 0 0 ([(ad (o), .inl (t 0, n0, .inl v0))]) 5 [(3, .int x3), (2, .int x2), (0, .ref (ad o)), (1, .int x1)] [] := by
  intro jn
  induction jn with
  | zero => intro x2 v0 u hf; cases (show (none : Option (Int32 × (Nat → Int32))) = some u from hf)
  | succ jn ih =>
    intro x2 v0 u hf kx
    unfold f_J7_fill_53178_L5 at hf
    refine j_iload_n hX dJ7_fill_53178_5 rfl 1 rfl ?_
    refine j_iload_n hX dJ7_fill_53178_6 rfl 0 rfl ?_
    refine j_icmp_ge hX 20 dJ7_fill_53178_7 (by decide) hf (fun c7 hf => ?_) (fun c7 hf => ?_)
    · cases hf
      exact kx _ rfl
    · refine j_aload_n hX dJ7_fill_53178_10 rfl 2 rfl ?_
      refine j_iload_n hX dJ7_fill_53178_11 rfl 1 rfl ?_
      refine j_iload_n hX dJ7_fill_53178_12 rfl 3 rfl ?_
      refine j_iast hX ([(ad (o), .inl (t 0, n0, .inl (upd v0 (x2).toNatClampNeg x1)))]) dJ7_fill_53178_13 0 0 rfl rfl rfl hf (fun c13 hf => ?_)
      refine j_iinc hX (x2 + 1) [(2, .int (x2 + 1)), (3, .int x3), (0, .ref (ad o)), (1, .int x1)] dJ7_fill_53178_14 1 rfl rfl (by decide) rfl ?_
      refine j_goto hX 5 dJ7_fill_53178_17 (by decide) ?_
      refine j_sub hX [(3, .int x3), (2, .int (x2 + 1)), (0, .ref (ad o)), (1, .int x1)] [1, 0, 2, 3] rfl ?_
      exact ih (x2 + 1) (upd v0 (x2).toNatClampNeg x1) u hf kx
set_option maxHeartbeats 4000000 in
set_option maxRecDepth 100000 in
theorem k_J7_fill_53178 {l : Launch} {D : va_G} {t : Nat → ClassId} {ad : Nat → Nat} {o : Nat} (n0 : Nat) (v0 : Nat → Int32) (a1 : Int32) (u : (Nat → Int32)) (hf : f_J7_fill_53178 n0 v0 a1 = some u) : cm l D (jT t) yJ7_fill_53178 cJ7_fill_53178 4 none { frames := 0, cells := 0, slots := 0, locals := 0 } [.ref (ad o), .int a1] ([(ad (o), .inl (t 0, n0, .inl v0))]) (fun v w => v = none ∧ w = [(ad (o), .inl (t 0, n0, .inl u))]) := by
  refine cm_of RJ7 rfl (by decide +kernel) (Nat.le_of_ble_eq_true rfl) (fun X hX hE => ?_)
  change J X 0 0 ([(ad (o), .inl (t 0, n0, .inl v0))]) 0 [(0, .ref (ad o)), (1, .int a1)] []
  unfold f_J7_fill_53178 at hf
  refine j_iconst hX 0 dJ7_fill_53178_0 (by decide) ?_
  refine j_istore_n hX [(2, .int 0), (0, .ref (ad o)), (1, .int a1)] dJ7_fill_53178_1 rfl (by decide) rfl ?_
  refine j_aload_n hX dJ7_fill_53178_2 rfl 1 rfl ?_
  refine j_alen hX (Int32.ofNat n0) dJ7_fill_53178_3 0 0 rfl rfl rfl ?_
  refine j_istore_n hX [(3, .int (Int32.ofNat n0)), (2, .int 0), (0, .ref (ad o)), (1, .int a1)] dJ7_fill_53178_4 rfl (by decide) rfl ?_
  obtain ⟨s2, h3, hf⟩ := jbind hf
  refine k_J7_fill_53178_L5 (ad := ad) n0 (Int32.ofNat n0) a1  hX jFU 0 v0 s2 h3 (fun s20 es2 => ?_)
  subst es2
  cases hf
  exact j_vret hX hE dJ7_fill_53178_20 (Nat.le_refl _) (Nat.le_refl _) ⟨rfl, rfl⟩

theorem zA_fit {f : Nat → Int32} (h : zA f) (j : Nat) : fits .byte (.int (f j)) = true := by
  obtain ⟨k, hk, e⟩ := h j
  rw [e]
  exact (z_byte k hk).2.2.2
theorem zA_cpy {f : Nat → Int32} {m : Nat} (h : zA f) : zA (va_cpy f (fun _ => 0) 0 0 m) := by
  intro j
  by_cases q : j < m
  · rw [sb_cpy0 q]; exact h j
  · exact ⟨0, by omega, by rw [pk_cpy_out (by omega)]; rfl⟩
set_option maxHeartbeats 4000000 in
set_option maxRecDepth 100000 in
theorem k_J5_ensureCapacityInternal_d00df {l : Launch} {D : va_G} {t : Nat → ClassId} {o z m q : Nat} {f : Nat → Int32} {ml n : Int32} (hq : q ≤ 20) (hm : m ≤ 42) (hA : zA f) : cm l D (jT t) yJ5_ensureCapacityInternal_d00df cJ5_ensureCapacityInternal_d00df 3 none { frames := 3, cells := 1, slots := 100, locals := 102 } [.ref o, .int (nI q)] (wQ t o z m f ml n) (fun v w => v = none ∧ ∃ (z' m' : Nat) (f' : Nat → Int32), w = wQ t o z' m' f' ml n ∧ q ≤ m' ∧ m ≤ m' ∧ m' ≤ 42 ∧ (∀ j, j < m → f' j = f j) ∧ zA f') := by
  refine cm_of RJ5 rfl (by decide +kernel) (Nat.le_of_ble_eq_true rfl) (fun X hX hE => ?_)
  change J X 0 0 (wQ t o z m f ml n) 0 [(0, .ref o), (1, .int (nI q))] []
  refine j_aload_n hX dJ5_ensureCapacityInternal_d00df_0 rfl 0 rfl ?_
  refine j_get hX dJ5_ensureCapacityInternal_d00df_1 inJ4 0 q174 0 rfl rfl (by decide) rfl rfl ?_
  refine j_alen hX (Int32.ofNat m) dJ5_ensureCapacityInternal_d00df_4 1 2 rfl rfl rfl ?_
  refine j_aload_n hX dJ5_ensureCapacityInternal_d00df_5 rfl 0 rfl ?_
  refine j_get hX dJ5_ensureCapacityInternal_d00df_6 inJ4 1 q175 0 rfl rfl (by decide) rfl rfl ?_
  refine j_ishr hX dJ5_ensureCapacityInternal_d00df_9 ?_
  rw [sb_shr0]
  refine j_istore_n hX [(2, .int (Int32.ofNat m)), (0, .ref o), (1, .int (nI q))] dJ5_ensureCapacityInternal_d00df_10 rfl (by decide) rfl ?_
  refine j_iload_n hX dJ5_ensureCapacityInternal_d00df_11 rfl 2 rfl ?_
  refine j_iload_n hX dJ5_ensureCapacityInternal_d00df_12 rfl 0 rfl ?_
  refine j_isub hX dJ5_ensureCapacityInternal_d00df_13 ?_
  have e1 : (nI q - Int32.ofNat m).toInt = (q : Int) - m := pk_sub_toInt (by omega) (by omega)
  by_cases hc : q ≤ m
  · have hc9 : nI q - Int32.ofNat m ≤ 0 := by rw [Int32.le_iff_toInt_le, e1, Int32.toInt_zero]; omega
    refine j_if_le (α := Unit) (F := none) (G := none) (o := none) hX 38 dJ5_ensureCapacityInternal_d00df_14 (by decide) (ite_self none) (fun _ _ => ?_) (fun hq9 _ => absurd hc9 hq9)
    exact j_vret hX hE dJ5_ensureCapacityInternal_d00df_38 (Nat.le_of_ble_eq_true rfl) (Nat.le_of_ble_eq_true rfl) ⟨rfl, z, m, f, rfl, hc, Nat.le_refl _, hm, fun _ _ => rfl, hA⟩
  · have hc9 : ¬ nI q - Int32.ofNat m ≤ 0 := by rw [Int32.le_iff_toInt_le, e1, Int32.toInt_zero]; omega
    refine j_if_le (α := Unit) (F := none) (G := none) (o := none) hX 38 dJ5_ensureCapacityInternal_d00df_14 (by decide) (ite_self none) (fun hq9 _ => absurd hq9 hc9) (fun _ _ => ?_)
    refine j_aload_n hX dJ5_ensureCapacityInternal_d00df_17 rfl 1 rfl ?_
    refine j_aload_n hX dJ5_ensureCapacityInternal_d00df_18 rfl 1 rfl ?_
    refine j_get hX dJ5_ensureCapacityInternal_d00df_19 inJ4 0 q174 0 rfl rfl (by decide) rfl rfl ?_
    refine j_aload_n hX dJ5_ensureCapacityInternal_d00df_22 rfl 1 rfl ?_
    refine j_iload_n hX dJ5_ensureCapacityInternal_d00df_23 rfl 2 rfl ?_
    refine j_callU (a := 0) (b := 0) (st := [.ref z, .ref o]) hX (k_J5_newCapacity_0f7a4 (t := t) (o := o) (z := z) (m := m) (q := q) (f := f) (ml := ml) (n := n) (by omega) (by omega) (by omega)) q1076 q1077 (Or.inr j_selC) q11 q1078 qSm_J5_newCapacity_0f7a4 (n9 := 1) rfl ⟨by decide +kernel, by decide +kernel⟩ 0 (ci := 1) rfl rfl rfl dJ5_ensureCapacityInternal_d00df_24 (Nat.le_of_ble_eq_true rfl) ⟨by decide, by decide⟩ (fun w : va_W => w) jFr_id rfl rfl (fun v w hvw => ?_)
    obtain ⟨rfl, rfl⟩ := hvw
    change J X 0 0 ([(o, .inr (1, [.ref z, .int 0, .int ml, .int n])), (z, .inl (t 2, m, .inl f))]) 27 [(2, .int (Int32.ofNat m)), (0, .ref o), (1, .int (nI q))] [.int (nI (m + (if q - m < m + 2 then m + 2 else q - m))), .ref z, .ref o]
    refine j_aload_n hX dJ5_ensureCapacityInternal_d00df_27 rfl 1 rfl ?_
    refine j_get hX dJ5_ensureCapacityInternal_d00df_28 inJ4 1 q175 0 rfl rfl (by decide) rfl rfl ?_
    refine j_ishl hX dJ5_ensureCapacityInternal_d00df_31 ?_
    rw [sb_shl0]
    have hcap : m < (m + (if q - m < m + 2 then m + 2 else q - m)) ∧ q ≤ (m + (if q - m < m + 2 then m + 2 else q - m)) ∧ (m + (if q - m < m + 2 then m + 2 else q - m)) ≤ 42 := by split <;> omega
    refine j_callS (a := 0) (b := 0) (st := [.ref o]) hX (k_J7_copyOf_9075b (t := t) (z := z) (m := m) (q := (m + (if q - m < m + 2 then m + 2 else q - m))) (f := f) (by omega) hcap.1 (by omega) (zA_fit hA)) q1088 q1089 q4 q1090 (n9 := 2) rfl ⟨by decide +kernel, by decide +kernel⟩ dJ5_ensureCapacityInternal_d00df_32 (Nat.le_of_ble_eq_true rfl) ⟨by decide, by decide⟩ (fun w : va_W => [(o, .inr (1, [.ref z, .int 0, .int ml, .int n]))] ++ w) (jFr_l _) rfl rfl (fun v w hvw => ?_)
    obtain ⟨z2, rfl, rfl⟩ := hvw
    change J X 1 100 ([(o, .inr (1, [.ref z, .int 0, .int ml, .int n])), (z, .inl (t 2, m, .inl f)), (z2, .inl (t 2, (m + (if q - m < m + 2 then m + 2 else q - m)), .inl (va_cpy f (fun _ => 0) 0 0 m)))]) 35 [(2, .int (Int32.ofNat m)), (0, .ref o), (1, .int (nI q))] [.ref z2, .ref o]
    refine j_put hX ([(o, .inr (1, [.ref z2, .int 0, .int ml, .int n])), (z, .inl (t 2, m, .inl f)), (z2, .inl (t 2, (m + (if q - m < m + 2 then m + 2 else q - m)), .inl (va_cpy f (fun _ => 0) 0 0 m)))]) tyJ4 dJ5_ensureCapacityInternal_d00df_35 inJ4 tyJ4_ok nmJ4 0 q174 0 rfl rfl (by decide) rfl rfl rfl rfl rfl (Nat.le_of_ble_eq_true rfl) rfl ?_
    refine j_dropP (wQ t o z2 (m + (if q - m < m + 2 then m + 2 else q - m)) (va_cpy f (fun _ => 0) 0 0 m) ml n) [(z, .inl (t 2, m, .inl f))] (List.Perm.cons _ (List.Perm.swap _ _ _)) ?_
    exact j_vret hX hE dJ5_ensureCapacityInternal_d00df_38 (Nat.le_of_ble_eq_true rfl) (Nat.le_of_ble_eq_true rfl) ⟨rfl, z2, _, _, rfl, hcap.2.1, by omega, hcap.2.2, fun j hj => sb_cpy0 hj, zA_cpy hA⟩
set_option maxHeartbeats 4000000 in
set_option maxRecDepth 100000 in
theorem k_J5_append_3fe6f {l : Launch} {D : va_G} {t : Nat → ClassId} {o z m k c : Nat} {f : Nat → Int32} {ml : Int32} (hk : k + 1 ≤ 20) (hkm : k ≤ m) (hm : m ≤ 42) (hA : zA f) (hc : c < 128) : cm l D (jT t) yJ5_append_3fe6f cJ5_append_3fe6f 2 (some (FieldType.object "java/lang/AbstractStringBuilder")) { frames := 4, cells := 1, slots := 100, locals := 124 } [.ref o, .int (nI c)] (wQ t o z m f ml (nI k)) (fun v w => v = some (.ref o) ∧ ∃ (z' m' : Nat) (f' : Nat → Int32), w = wQ t o z' m' f' ml (nI (k + 1)) ∧ k + 1 ≤ m' ∧ m' ≤ 42 ∧ zA f' ∧ (∀ j, j < k → f' j = f j) ∧ f' k = nI c) := by
  refine cm_of RJ5 rfl (by decide +kernel) (Nat.le_of_ble_eq_true rfl) (fun X hX hE => ?_)
  change J X 0 0 (wQ t o z m f ml (nI k)) 0 [(0, .ref o), (1, .int (nI c))] []
  refine j_aload_n hX dJ5_append_3fe6f_0 rfl 0 rfl ?_
  refine j_aload_n hX dJ5_append_3fe6f_1 rfl 0 rfl ?_
  refine j_get hX dJ5_append_3fe6f_2 inJ4 3 q178 0 rfl rfl (by decide) rfl rfl ?_
  refine j_iconst hX 1 dJ5_append_3fe6f_5 (by decide) ?_
  refine j_iadd hX dJ5_append_3fe6f_6 ?_
  rw [nI_1]
  refine j_callU (a := 0) (b := 0) (st := []) hX (k_J5_ensureCapacityInternal_d00df (t := t) (o := o) (z := z) (m := m) (q := k + 1) (f := f) (ml := ml) (n := nI k) (by omega) hm hA) q1073 q1074 (Or.inr j_selE) q11 q1075 qSm_J5_ensureCapacityInternal_d00df (n9 := 1) rfl ⟨by decide +kernel, by decide +kernel⟩ 0 (ci := 1) rfl rfl rfl dJ5_append_3fe6f_7 (Nat.le_of_ble_eq_true rfl) ⟨by decide, by decide⟩ (fun w : va_W => w) jFr_id rfl rfl (fun v w hvw => ?_)
  obtain ⟨rfl, z', m', f', rfl, g1, g2, g3, g4, g5⟩ := hvw
  change J X 1 100 ([(o, .inr (1, [.ref z', .int 0, .int ml, .int (nI k)])), (z', .inl (t 2, m', .inl f'))]) 10 [(0, .ref o), (1, .int (nI c))] []
  refine j_aload_n hX dJ5_append_3fe6f_10 rfl 0 rfl ?_
  refine j_callU (a := 1) (b := 100) (st := []) hX (k_J5_isLatin1_aae02 (t := t)) q1099 q1100 (Or.inl q1101) q11 q1102 qSm_J5_isLatin1_aae02 (n9 := 0) rfl ⟨by decide +kernel, by decide +kernel⟩ 0 (ci := 1) rfl rfl rfl dJ5_append_3fe6f_11 (Nat.le_of_ble_eq_true rfl) ⟨by decide, by decide⟩ (fun w : va_W => w) jFr_id rfl rfl (fun v w hvw => ?_)
  obtain ⟨rfl, rfl⟩ := hvw
  change J X 1 100 ([(o, .inr (1, [.ref z', .int 0, .int ml, .int (nI k)])), (z', .inl (t 2, m', .inl f'))]) 14 [(0, .ref o), (1, .int (nI c))] [.int 1]
  refine j_if_eq (α := Unit) (F := none) (G := none) (o := none) hX 45 dJ5_append_3fe6f_14 (by decide) (ite_self none) (fun hq9 _ => absurd hq9 (by decide)) (fun _ _ => ?_)
  refine j_iload_n hX dJ5_append_3fe6f_17 rfl 1 rfl ?_
  refine j_callS (a := 1) (b := 100) (st := []) hX (k_J1_canEncode_fc78d (t := t) (c := c) hc) q1273 q1274 q34 q1275 (n9 := 1) rfl ⟨by decide +kernel, by decide +kernel⟩ dJ5_append_3fe6f_18 (Nat.le_of_ble_eq_true rfl) ⟨by decide, by decide⟩ (fun w : va_W => w ++ (wQ t o z' m' f' ml (nI k))) (jFr_r _) rfl rfl (fun v w hvw => ?_)
  obtain ⟨rfl, rfl⟩ := hvw
  change J X 1 100 ([(o, .inr (1, [.ref z', .int 0, .int ml, .int (nI k)])), (z', .inl (t 2, m', .inl f'))]) 21 [(0, .ref o), (1, .int (nI c))] [.int 1]
  refine j_if_eq (α := Unit) (F := none) (G := none) (o := none) hX 45 dJ5_append_3fe6f_21 (by decide) (ite_self none) (fun hq9 _ => absurd hq9 (by decide)) (fun _ _ => ?_)
  refine j_aload_n hX dJ5_append_3fe6f_24 rfl 0 rfl ?_
  refine j_get hX dJ5_append_3fe6f_25 inJ4 0 q174 0 rfl rfl (by decide) rfl rfl ?_
  refine j_aload_n hX dJ5_append_3fe6f_28 rfl 0 rfl ?_
  refine j_dup hX dJ5_append_3fe6f_29 rfl ?_
  refine j_get hX dJ5_append_3fe6f_30 inJ4 3 q178 0 rfl rfl (by decide) rfl rfl ?_
  refine j_dup_x1 hX dJ5_append_3fe6f_33 rfl rfl ?_
  refine j_iconst hX 1 dJ5_append_3fe6f_34 (by decide) ?_
  refine j_iadd hX dJ5_append_3fe6f_35 ?_
  rw [nI_1]
  refine j_put hX ([(o, .inr (1, [.ref z', .int 0, .int ml, .int (nI (k + 1))])), (z', .inl (t 2, m', .inl f'))]) tyJ4 dJ5_append_3fe6f_36 inJ4 tyJ4_ok nmJ4 3 q178 0 rfl rfl (by decide) rfl rfl rfl rfl rfl (Nat.le_of_ble_eq_true rfl) rfl ?_
  refine j_iload_n hX dJ5_append_3fe6f_39 rfl 1 rfl ?_
  refine j_i2b hX dJ5_append_3fe6f_40 ?_
  refine j_bast (α := Unit) (G := some ()) (o9 := ()) hX ([(o, .inr (1, [.ref z', .int 0, .int ml, .int (nI (k + 1))])), (z', .inl (t 2, m', .inl (upd f' k (nI c))))]) dJ5_append_3fe6f_41 1 2 rfl rfl (by rw [z_cl (by omega), (z_byte c hc).2.2.1]; rfl) (if_pos (by rw [z_jin (by omega), decide_eq_true_eq]; omega)) (fun _ _ => ?_)
  refine j_goto hX 75 dJ5_append_3fe6f_42 (by decide) ?_
  refine j_aload_n hX dJ5_append_3fe6f_75 rfl 0 rfl ?_
  exact j_aret hX hE (Or.inl ⟨_, rfl⟩) dJ5_append_3fe6f_76 (Nat.le_of_ble_eq_true rfl) (Nat.le_of_ble_eq_true rfl) ⟨rfl, z', m', _, rfl, g1, g3, zA_upd g5 hc, fun j hj => by rw [z_updn _ (by omega), g4 j (by omega)], z_upds _ _ _⟩
set_option maxHeartbeats 4000000 in
set_option maxRecDepth 100000 in
theorem k_J4_append_cf468 {l : Launch} {D : va_G} {t : Nat → ClassId} {o z m k c : Nat} {f : Nat → Int32} {ml : Int32} (hk : k + 1 ≤ 20) (hkm : k ≤ m) (hm : m ≤ 42) (hA : zA f) (hc : c < 128) : cm l D (jT t) yJ4_append_cf468 cJ4_append_cf468 2 (some (FieldType.object "java/lang/StringBuilder")) { frames := 5, cells := 1, slots := 100, locals := 145 } [.ref o, .int (nI c)] (wQ t o z m f ml (nI k)) (fun v w => v = some (.ref o) ∧ ∃ (z' m' : Nat) (f' : Nat → Int32), w = wQ t o z' m' f' ml (nI (k + 1)) ∧ k + 1 ≤ m' ∧ m' ≤ 42 ∧ zA f' ∧ (∀ j, j < k → f' j = f j) ∧ f' k = nI c) := by
  refine cm_of RJ4 rfl (by decide +kernel) (Nat.le_of_ble_eq_true rfl) (fun X hX hE => ?_)
  change J X 0 0 (wQ t o z m f ml (nI k)) 0 [(0, .ref o), (1, .int (nI c))] []
  refine j_aload_n hX dJ4_append_cf468_0 rfl 0 rfl ?_
  refine j_iload_n hX dJ4_append_cf468_1 rfl 1 rfl ?_
  refine j_callSU (a := 0) (b := 0) (st := []) hX (k_J5_append_3fe6f (t := t) hk hkm hm hA hc) q1270 q1271 qSup q11 q1272 qSm_J5_append_3fe6f (by decide +kernel) (n9 := 1) rfl ⟨by decide +kernel, by decide +kernel⟩ 0 (ci := 1) rfl rfl rfl dJ4_append_cf468_2 (Nat.le_of_ble_eq_true rfl) ⟨by decide, by decide⟩ (fun w : va_W => w) jFr_id rfl rfl (fun v w hvw => ?_)
  obtain ⟨rfl, z', m', f', rfl, g⟩ := hvw
  change J X 1 100 ([(o, .inr (1, [.ref z', .int 0, .int ml, .int (nI (k + 1))])), (z', .inl (t 2, m', .inl f'))]) 5 [(0, .ref o), (1, .int (nI c))] [.ref o]
  refine j_pop hX dJ4_append_cf468_5 rfl ?_
  refine j_aload_n hX dJ4_append_cf468_6 rfl 0 rfl ?_
  exact j_aret hX hE (Or.inl ⟨_, rfl⟩) dJ4_append_cf468_7 (Nat.le_of_ble_eq_true rfl) (Nat.le_of_ble_eq_true rfl) ⟨rfl, z', m', f', rfl, g⟩
set_option maxHeartbeats 4000000 in
set_option maxRecDepth 100000 in
theorem k_J5_append_c97b9 {l : Launch} {D : va_G} {t : Nat → ClassId} {o z m k x e : Nat} {f : Nat → Int32} {ml : Int32} (hk : k + e + 1 ≤ 20) (hkm : k ≤ m) (hm : m ≤ 42) (hA : zA f) (hx : x < 1000000) (hd : zDl x e) : cm l D (jT t) yJ5_append_c97b9 cJ5_append_c97b9 4 (some (FieldType.object "java/lang/AbstractStringBuilder")) { frames := 4, cells := 1, slots := 100, locals := 124 } [.ref o, .int (nI x)] (wQ t o z m f ml (nI k)) (fun v w => v = some (.ref o) ∧ ∃ (z' m' : Nat) (f' : Nat → Int32), w = wQ t o z' m' f' ml (nI (k + e + 1)) ∧ k + e + 1 ≤ m' ∧ m' ≤ 42 ∧ zA f' ∧ (∀ j, j < k → f' j = f j) ∧ ∀ j, j ≤ e → f' (k + j) = nI (48 + x / 10 ^ (e - j) % 10)) := by
  refine cm_of RJ5 rfl (by decide +kernel) (Nat.le_of_ble_eq_true rfl) (fun X hX hE => ?_)
  change J X 0 0 (wQ t o z m f ml (nI k)) 0 [(0, .ref o), (1, .int (nI x))] []
  refine j_aload_n hX dJ5_append_c97b9_0 rfl 0 rfl ?_
  refine j_get hX dJ5_append_c97b9_1 inJ4 3 q178 0 rfl rfl (by decide) rfl rfl ?_
  refine j_istore_n hX [(2, .int (nI k)), (0, .ref o), (1, .int (nI x))] dJ5_append_c97b9_4 rfl (by decide) rfl ?_
  refine j_iload_n hX dJ5_append_c97b9_5 rfl 0 rfl ?_
  refine j_iload_n hX dJ5_append_c97b9_6 rfl 2 rfl ?_
  refine j_callS (a := 0) (b := 0) (st := [.int (nI k)]) hX (k_J6_stringSize_0f7a4 (t := t) (ad := fun _ => 0) (nI x) _ (j6_size hx hd)) q1172 q1173 q29 q1174 (n9 := 1) rfl ⟨by decide +kernel, by decide +kernel⟩ dJ5_append_c97b9_7 (Nat.le_of_ble_eq_true rfl) ⟨by decide, by decide⟩ (fun w : va_W => w ++ (wQ t o z m f ml (nI k))) (jFr_r _) rfl rfl (fun v w hvw => ?_)
  obtain ⟨rfl, rfl⟩ := hvw
  change J X 0 0 ([(o, .inr (1, [.ref z, .int 0, .int ml, .int (nI k)])), (z, .inl (t 2, m, .inl f))]) 10 [(2, .int (nI k)), (0, .ref o), (1, .int (nI x))] [.int (nI (e + 1)), .int (nI k)]
  refine j_iadd hX dJ5_append_c97b9_10 ?_
  rw [nI_add]
  change J X 0 0 ([(o, .inr (1, [.ref z, .int 0, .int ml, .int (nI k)])), (z, .inl (t 2, m, .inl f))]) 11 [(2, .int (nI k)), (0, .ref o), (1, .int (nI x))] [.int (nI (k + e + 1))]
  refine j_istore_n hX [(3, .int (nI (k + e + 1))), (2, .int (nI k)), (0, .ref o), (1, .int (nI x))] dJ5_append_c97b9_11 rfl (by decide) rfl ?_
  refine j_aload_n hX dJ5_append_c97b9_12 rfl 2 rfl ?_
  refine j_iload_n hX dJ5_append_c97b9_13 rfl 0 rfl ?_
  refine j_callU (a := 0) (b := 0) (st := []) hX (k_J5_ensureCapacityInternal_d00df (t := t) (o := o) (z := z) (m := m) (q := k + e + 1) (f := f) (ml := ml) (n := nI k) (by omega) hm hA) q1073 q1074 (Or.inr j_selE) q11 q1075 qSm_J5_ensureCapacityInternal_d00df (n9 := 1) rfl ⟨by decide +kernel, by decide +kernel⟩ 0 (ci := 1) rfl rfl rfl dJ5_append_c97b9_14 (Nat.le_of_ble_eq_true rfl) ⟨by decide, by decide⟩ (fun w : va_W => w) jFr_id rfl rfl (fun v w hvw => ?_)
  obtain ⟨rfl, z', m', f', rfl, g1, g2, g3, g4, g5⟩ := hvw
  change J X 1 100 ([(o, .inr (1, [.ref z', .int 0, .int ml, .int (nI k)])), (z', .inl (t 2, m', .inl f'))]) 17 [(3, .int (nI (k + e + 1))), (2, .int (nI k)), (0, .ref o), (1, .int (nI x))] []
  refine j_aload_n hX dJ5_append_c97b9_17 rfl 2 rfl ?_
  refine j_callU (a := 1) (b := 100) (st := []) hX (k_J5_isLatin1_aae02 (t := t)) q1099 q1100 (Or.inl q1101) q11 q1102 qSm_J5_isLatin1_aae02 (n9 := 0) rfl ⟨by decide +kernel, by decide +kernel⟩ 0 (ci := 1) rfl rfl rfl dJ5_append_c97b9_18 (Nat.le_of_ble_eq_true rfl) ⟨by decide, by decide⟩ (fun w : va_W => w) jFr_id rfl rfl (fun v w hvw => ?_)
  obtain ⟨rfl, rfl⟩ := hvw
  change J X 1 100 ([(o, .inr (1, [.ref z', .int 0, .int ml, .int (nI k)])), (z', .inl (t 2, m', .inl f'))]) 21 [(3, .int (nI (k + e + 1))), (2, .int (nI k)), (0, .ref o), (1, .int (nI x))] [.int 1]
  refine j_if_eq (α := Unit) (F := none) (G := none) (o := none) hX 37 dJ5_append_c97b9_21 (by decide) (ite_self none) (fun hq9 _ => absurd hq9 (by decide)) (fun _ _ => ?_)
  refine j_iload_n hX dJ5_append_c97b9_24 rfl 3 rfl ?_
  refine j_iload_n hX dJ5_append_c97b9_25 rfl 0 rfl ?_
  refine j_aload_n hX dJ5_append_c97b9_26 rfl 2 rfl ?_
  refine j_get hX dJ5_append_c97b9_27 inJ4 0 q174 0 rfl rfl (by decide) rfl rfl ?_
  obtain ⟨r9, f9, hch, hw9⟩ := j6_chars (m := m') (n := k) (f := f') hx hd (by omega) (by omega)
  refine j_callS (a := 1) (b := 100) (st := []) hX (k_J6_getChars_ba4f3 (t := t) (ad := fun _ => z') (o := 0) m' f' (nI x) (nI (k + e + 1)) _ hch) q1175 q1176 q29 q1177 (n9 := 3) rfl ⟨by decide +kernel, by decide +kernel⟩ dJ5_append_c97b9_30 (Nat.le_of_ble_eq_true rfl) ⟨by decide, by decide⟩ (fun w : va_W => [(o, .inr (1, [.ref z', .int 0, .int ml, .int (nI k)]))] ++ w) (jFr_l _) rfl rfl (fun v w hvw => ?_)
  obtain ⟨rfl, rfl⟩ := hvw
  change J X 1 100 ([(o, .inr (1, [.ref z', .int 0, .int ml, .int (nI k)])), (z', .inl (t 2, m', .inl f9))]) 33 [(3, .int (nI (k + e + 1))), (2, .int (nI k)), (0, .ref o), (1, .int (nI x))] [.int r9]
  refine j_pop hX dJ5_append_c97b9_33 rfl ?_
  refine j_goto hX 48 dJ5_append_c97b9_34 (by decide) ?_
  refine j_aload_n hX dJ5_append_c97b9_48 rfl 2 rfl ?_
  refine j_iload_n hX dJ5_append_c97b9_49 rfl 0 rfl ?_
  refine j_put hX ([(o, .inr (1, [.ref z', .int 0, .int ml, .int (nI (k + e + 1))])), (z', .inl (t 2, m', .inl f9))]) tyJ4 dJ5_append_c97b9_50 inJ4 tyJ4_ok nmJ4 3 q178 0 rfl rfl (by decide) rfl rfl rfl rfl rfl (Nat.le_of_ble_eq_true rfl) rfl ?_
  refine j_aload_n hX dJ5_append_c97b9_53 rfl 2 rfl ?_
  exact j_aret hX hE (Or.inl ⟨_, rfl⟩) dJ5_append_c97b9_54 (Nat.le_of_ble_eq_true rfl) (Nat.le_of_ble_eq_true rfl) ⟨rfl, z', m', f9, rfl, by omega, g3, hw9.2.2 g5, fun j hj => by rw [hw9.2.1 j hj, g4 j (by omega)], hw9.1⟩
set_option maxHeartbeats 4000000 in
set_option maxRecDepth 100000 in
theorem k_J4_append_bf812 {l : Launch} {D : va_G} {t : Nat → ClassId} {o z m k x e : Nat} {f : Nat → Int32} {ml : Int32} (hk : k + e + 1 ≤ 20) (hkm : k ≤ m) (hm : m ≤ 42) (hA : zA f) (hx : x < 1000000) (hd : zDl x e) : cm l D (jT t) yJ4_append_bf812 cJ4_append_bf812 2 (some (FieldType.object "java/lang/StringBuilder")) { frames := 5, cells := 1, slots := 100, locals := 147 } [.ref o, .int (nI x)] (wQ t o z m f ml (nI k)) (fun v w => v = some (.ref o) ∧ ∃ (z' m' : Nat) (f' : Nat → Int32), w = wQ t o z' m' f' ml (nI (k + e + 1)) ∧ k + e + 1 ≤ m' ∧ m' ≤ 42 ∧ zA f' ∧ (∀ j, j < k → f' j = f j) ∧ ∀ j, j ≤ e → f' (k + j) = nI (48 + x / 10 ^ (e - j) % 10)) := by
  refine cm_of RJ4 rfl (by decide +kernel) (Nat.le_of_ble_eq_true rfl) (fun X hX hE => ?_)
  change J X 0 0 (wQ t o z m f ml (nI k)) 0 [(0, .ref o), (1, .int (nI x))] []
  refine j_aload_n hX dJ4_append_bf812_0 rfl 0 rfl ?_
  refine j_iload_n hX dJ4_append_bf812_1 rfl 1 rfl ?_
  refine j_callSU (a := 0) (b := 0) (st := []) hX (k_J5_append_c97b9 (t := t) hk hkm hm hA hx hd) q1169 q1170 qSup q11 q1171 qSm_J5_append_c97b9 (by decide +kernel) (n9 := 1) rfl ⟨by decide +kernel, by decide +kernel⟩ 0 (ci := 1) rfl rfl rfl dJ4_append_bf812_2 (Nat.le_of_ble_eq_true rfl) ⟨by decide, by decide⟩ (fun w : va_W => w) jFr_id rfl rfl (fun v w hvw => ?_)
  obtain ⟨rfl, z', m', f', rfl, g⟩ := hvw
  change J X 1 100 ([(o, .inr (1, [.ref z', .int 0, .int ml, .int (nI (k + e + 1))])), (z', .inl (t 2, m', .inl f'))]) 5 [(0, .ref o), (1, .int (nI x))] [.ref o]
  refine j_pop hX dJ4_append_bf812_5 rfl ?_
  refine j_aload_n hX dJ4_append_bf812_6 rfl 0 rfl ?_
  exact j_aret hX hE (Or.inl ⟨_, rfl⟩) dJ4_append_bf812_7 (Nat.le_of_ble_eq_true rfl) (Nat.le_of_ble_eq_true rfl) ⟨rfl, z', m', f', rfl, g⟩
set_option maxHeartbeats 4000000 in
set_option maxRecDepth 100000 in
theorem k_J5_setLength_d00df {l : Launch} {D : va_G} {t : Nat → ClassId} {o z m k : Nat} {f : Nat → Int32} {ml : Int32} (hk : k ≤ 20) (hm : m ≤ 42) (hA : zA f) : cm l D (jT t) yJ5_setLength_d00df cJ5_setLength_d00df 2 none { frames := 4, cells := 1, slots := 100, locals := 124 } [.ref o, .int 0] (wQ t o z m f ml (nI k)) (fun v w => v = none ∧ ∃ (z' m' : Nat) (f' : Nat → Int32) (ml' : Int32), w = wQ t o z' m' f' ml' 0 ∧ m' ≤ 42 ∧ zA f') := by
  refine cm_of RJ5 rfl (by decide +kernel) (Nat.le_of_ble_eq_true rfl) (fun X hX hE => ?_)
  change J X 0 0 (wQ t o z m f ml (nI k)) 0 [(0, .ref o), (1, .int 0)] []
  refine j_iload_n hX dJ5_setLength_d00df_0 rfl 1 rfl ?_
  refine j_if_ge (α := Unit) (F := none) (G := none) (o := none) hX 13 dJ5_setLength_d00df_1 (by decide) (ite_self none) (fun _ _ => ?_) (fun hq9 _ => absurd hq9 (by decide))
  refine j_aload_n hX dJ5_setLength_d00df_13 rfl 0 rfl ?_
  refine j_iload_n hX dJ5_setLength_d00df_14 rfl 1 rfl ?_
  refine j_callU (a := 0) (b := 0) (st := []) hX (k_J5_ensureCapacityInternal_d00df (t := t) (o := o) (z := z) (m := m) (q := 0) (f := f) (ml := ml) (n := nI k) (by omega) hm hA) q1073 q1074 (Or.inr j_selE) q11 q1075 qSm_J5_ensureCapacityInternal_d00df (n9 := 1) rfl ⟨by decide +kernel, by decide +kernel⟩ 0 (ci := 1) rfl rfl rfl dJ5_setLength_d00df_15 (Nat.le_of_ble_eq_true rfl) ⟨by decide, by decide⟩ (fun w : va_W => w) jFr_id rfl rfl (fun v w hvw => ?_)
  obtain ⟨rfl, z', m', f', rfl, g1, g2, g3, g4, g5⟩ := hvw
  change J X 1 100 ([(o, .inr (1, [.ref z', .int 0, .int ml, .int (nI k)])), (z', .inl (t 2, m', .inl f'))]) 18 [(0, .ref o), (1, .int 0)] []
  have hk9 : (0 : Int32) ≤ nI k := by rw [show (0 : Int32) = nI 0 from rfl, z_le (by omega) (by omega)]; omega
  refine j_aload_n hX dJ5_setLength_d00df_18 rfl 0 rfl ?_
  refine j_get hX dJ5_setLength_d00df_19 inJ4 3 q178 0 rfl rfl (by decide) rfl rfl ?_
  refine j_iload_n hX dJ5_setLength_d00df_22 rfl 1 rfl ?_
  refine j_icmp_ge (α := Unit) (F := none) (G := none) (o := none) hX 63 dJ5_setLength_d00df_23 (by decide) (ite_self none) (fun _ _ => ?_) (fun hq9 _ => absurd hk9 hq9)
  refine j_aload_n hX dJ5_setLength_d00df_63 rfl 0 rfl ?_
  refine j_get hX dJ5_setLength_d00df_64 inJ4 3 q178 0 rfl rfl (by decide) rfl rfl ?_
  refine j_iload_n hX dJ5_setLength_d00df_67 rfl 1 rfl ?_
  by_cases hk8 : nI k ≤ 0
  · refine j_icmp_le (α := Unit) (F := none) (G := none) (o := none) hX 76 dJ5_setLength_d00df_68 (by decide) (ite_self none) (fun _ _ => ?_) (fun hq9 _ => absurd hk8 hq9)
    refine j_aload_n hX dJ5_setLength_d00df_76 rfl 0 rfl ?_
    refine j_iload_n hX dJ5_setLength_d00df_77 rfl 1 rfl ?_
    refine j_put hX ([(o, .inr (1, [.ref z', .int 0, .int ml, .int 0])), (z', .inl (t 2, m', .inl f'))]) tyJ4 dJ5_setLength_d00df_78 inJ4 tyJ4_ok nmJ4 3 q178 0 rfl rfl (by decide) rfl rfl rfl rfl rfl (Nat.le_of_ble_eq_true rfl) rfl ?_
    exact j_vret hX hE dJ5_setLength_d00df_81 (Nat.le_of_ble_eq_true rfl) (Nat.le_of_ble_eq_true rfl) ⟨rfl, z', m', f', ml, rfl, g3, g5⟩
  · refine j_icmp_le (α := Unit) (F := none) (G := none) (o := none) hX 76 dJ5_setLength_d00df_68 (by decide) (ite_self none) (fun hq9 _ => absurd hq9 hk8) (fun _ _ => ?_)
    refine j_aload_n hX dJ5_setLength_d00df_71 rfl 0 rfl ?_
    refine j_iconst hX 1 dJ5_setLength_d00df_72 (by decide) ?_
    refine j_put hX ([(o, .inr (1, [.ref z', .int 0, .int 1, .int (nI k)])), (z', .inl (t 2, m', .inl f'))]) tyJ4 dJ5_setLength_d00df_73 inJ4 tyJ4_ok nmJ4 2 q176 0 rfl rfl (by decide) rfl rfl rfl rfl rfl (Nat.le_of_ble_eq_true rfl) rfl ?_
    refine j_aload_n hX dJ5_setLength_d00df_76 rfl 0 rfl ?_
    refine j_iload_n hX dJ5_setLength_d00df_77 rfl 1 rfl ?_
    refine j_put hX ([(o, .inr (1, [.ref z', .int 0, .int 1, .int 0])), (z', .inl (t 2, m', .inl f'))]) tyJ4 dJ5_setLength_d00df_78 inJ4 tyJ4_ok nmJ4 3 q178 0 rfl rfl (by decide) rfl rfl rfl rfl rfl (Nat.le_of_ble_eq_true rfl) rfl ?_
    exact j_vret hX hE dJ5_setLength_d00df_81 (Nat.le_of_ble_eq_true rfl) (Nat.le_of_ble_eq_true rfl) ⟨rfl, z', m', f', 1, rfl, g3, g5⟩
set_option maxHeartbeats 4000000 in
set_option maxRecDepth 100000 in
theorem k_J4_setLength_d00df {l : Launch} {D : va_G} {t : Nat → ClassId} {o z m k : Nat} {f : Nat → Int32} {ml : Int32} (hk : k ≤ 20) (hm : m ≤ 42) (hA : zA f) : cm l D (jT t) yJ4_setLength_d00df cJ4_setLength_d00df 2 none { frames := 5, cells := 1, slots := 100, locals := 145 } [.ref o, .int 0] (wQ t o z m f ml (nI k)) (fun v w => v = none ∧ ∃ (z' m' : Nat) (f' : Nat → Int32) (ml' : Int32), w = wQ t o z' m' f' ml' 0 ∧ m' ≤ 42 ∧ zA f') := by
  refine cm_of RJ4 rfl (by decide +kernel) (Nat.le_of_ble_eq_true rfl) (fun X hX hE => ?_)
  change J X 0 0 (wQ t o z m f ml (nI k)) 0 [(0, .ref o), (1, .int 0)] []
  refine j_aload_n hX dJ4_setLength_d00df_0 rfl 0 rfl ?_
  refine j_iload_n hX dJ4_setLength_d00df_1 rfl 1 rfl ?_
  refine j_callSU (a := 0) (b := 0) (st := []) hX (k_J5_setLength_d00df (t := t) hk hm hA) q1053 q1054 qSup q11 q1055 qSm_J5_setLength_d00df (by decide +kernel) (n9 := 1) rfl ⟨by decide +kernel, by decide +kernel⟩ 0 (ci := 1) rfl rfl rfl dJ4_setLength_d00df_2 (Nat.le_of_ble_eq_true rfl) ⟨by decide, by decide⟩ (fun w : va_W => w) jFr_id rfl rfl (fun v w hvw => ?_)
  obtain ⟨rfl, z', m', f', ml', rfl, g⟩ := hvw
  change J X 1 100 ([(o, .inr (1, [.ref z', .int 0, .int ml', .int 0])), (z', .inl (t 2, m', .inl f'))]) 5 [(0, .ref o), (1, .int 0)] []
  exact j_vret hX hE dJ4_setLength_d00df_5 (Nat.le_of_ble_eq_true rfl) (Nat.le_of_ble_eq_true rfl) ⟨rfl, z', m', f', ml', rfl, g⟩
set_option maxHeartbeats 4000000 in
set_option maxRecDepth 100000 in
theorem k_J5_charAt_5068e {l : Launch} {D : va_G} {t : Nat → ClassId} {o z m k i : Nat} {f : Nat → Int32} {ml : Int32} (hi : i < k) (hkm : k ≤ m) (hm : m ≤ 42) (hA : zA f) : cm l D (jT t) yJ5_charAt_5068e cJ5_charAt_5068e 5 (some FieldType.char) { frames := 2, cells := 0, slots := 0, locals := 43 } [.ref o, .int (nI i)] (wQ t o z m f ml (nI k)) (fun v w => v = some (.int (f i)) ∧ w = wQ t o z m f ml (nI k)) := by
  refine cm_of RJ5 rfl (by decide +kernel) (Nat.le_of_ble_eq_true rfl) (fun X hX hE => ?_)
  change J X 0 0 (wQ t o z m f ml (nI k)) 0 [(0, .ref o), (1, .int (nI i))] []
  refine j_aload_n hX dJ5_charAt_5068e_0 rfl 0 rfl ?_
  refine j_get hX dJ5_charAt_5068e_1 inJ4 1 q175 0 rfl rfl (by decide) rfl rfl ?_
  refine j_istore_n hX [(2, .int 0), (0, .ref o), (1, .int (nI i))] dJ5_charAt_5068e_4 rfl (by decide) rfl ?_
  refine j_aload_n hX dJ5_charAt_5068e_5 rfl 1 rfl ?_
  refine j_get hX dJ5_charAt_5068e_6 inJ4 0 q174 0 rfl rfl (by decide) rfl rfl ?_
  refine j_astore_n hX [(3, .ref z), (2, .int 0), (0, .ref o), (1, .int (nI i))] dJ5_charAt_5068e_9 rfl (by decide) rfl ?_
  refine j_aload_n hX dJ5_charAt_5068e_10 rfl 2 rfl ?_
  refine j_get hX dJ5_charAt_5068e_11 inJ4 3 q178 0 rfl rfl (by decide) rfl rfl ?_
  refine j_aload_n hX dJ5_charAt_5068e_14 rfl 0 rfl ?_
  refine j_alen hX (Int32.ofNat m) dJ5_charAt_5068e_15 1 2 rfl rfl rfl ?_
  refine j_iload_n hX dJ5_charAt_5068e_16 rfl 1 rfl ?_
  refine j_ishr hX dJ5_charAt_5068e_17 ?_
  rw [sb_shr0]
  refine j_mmin hX q1311 dJ5_charAt_5068e_18 (Nat.le_of_ble_eq_true rfl) (by decide) ⟨Nat.le_refl _, Nat.le_refl _⟩ ?_
  rw [show jmin (nI k) (Int32.ofNat m) = nI k by unfold jmin; rw [show Int32.ofNat m = nI m from rfl, if_neg (by rw [z_lt (by omega) (by omega)]; omega)]]
  refine j_istore hX [(4, .int (nI k)), (3, .ref z), (2, .int 0), (0, .ref o), (1, .int (nI i))] dJ5_charAt_5068e_21 (by decide) rfl ?_
  refine j_iload_n hX dJ5_charAt_5068e_23 rfl 4 rfl ?_
  refine j_iload hX dJ5_charAt_5068e_24 0 rfl ?_
  refine j_callS (st := []) hX (k_J0_checkIndex_df160 (t := t) (i := nI i) (n := nI k) (nI_pos (by omega)) (nI_lt hi (by omega))) q1312 q1283 q13 q1284 (n9 := 2) rfl ⟨by decide +kernel, by decide +kernel⟩ dJ5_charAt_5068e_26 (Nat.le_of_ble_eq_true rfl) ⟨by decide, by decide⟩ (fun w : va_W => w ++ (wQ t o z m f ml (nI k))) (jFr_r _) rfl rfl (fun v w hvw => ?_)
  obtain ⟨rfl, rfl⟩ := hvw
  change J X 0 0 ([(o, .inr (1, [.ref z, .int 0, .int ml, .int (nI k)])), (z, .inl (t 2, m, .inl f))]) 29 [(4, .int (nI k)), (3, .ref z), (2, .int 0), (0, .ref o), (1, .int (nI i))] []
  refine j_iload_n hX dJ5_charAt_5068e_29 rfl 2 rfl ?_
  refine j_if_ne (α := Unit) (F := none) (G := none) (o := none) hX 42 dJ5_charAt_5068e_30 (by decide) (ite_self none) (fun hq9 _ => absurd hq9 (by decide)) (fun _ _ => ?_)
  refine j_aload_n hX dJ5_charAt_5068e_33 rfl 1 rfl ?_
  refine j_iload_n hX dJ5_charAt_5068e_34 rfl 4 rfl ?_
  obtain ⟨c, hc, ec⟩ := hA i
  refine j_bald (α := Unit) (G := some ()) (o := ()) hX dJ5_charAt_5068e_35 1 2 rfl rfl (if_pos (by rw [z_jin (by omega), decide_eq_true_eq]; omega)) (fun _ _ => ?_)
  rw [z_cl (by omega), ec]
  refine j_sipush hX 255 dJ5_charAt_5068e_36 (by decide) ?_
  refine j_iand hX dJ5_charAt_5068e_39 ?_
  refine j_i2c hX dJ5_charAt_5068e_40 ?_
  rw [show (((nI c) &&& 255).toUInt32 % 65536).toInt32 = nI c from jAsc c hc, ← ec]
  exact j_zret hX hE (by rw [ec]; exact (pk_charN (by omega)).1) dJ5_charAt_5068e_41 (Nat.le_refl _) (Nat.le_refl _) ⟨rfl, rfl⟩
set_option maxHeartbeats 4000000 in
set_option maxRecDepth 100000 in
theorem k_J4_charAt_5068e {l : Launch} {D : va_G} {t : Nat → ClassId} {o z m k i : Nat} {f : Nat → Int32} {ml : Int32} (hi : i < k) (hkm : k ≤ m) (hm : m ≤ 42) (hA : zA f) : cm l D (jT t) yJ4_charAt_5068e cJ4_charAt_5068e 2 (some FieldType.char) { frames := 3, cells := 0, slots := 0, locals := 67 } [.ref o, .int (nI i)] (wQ t o z m f ml (nI k)) (fun v w => v = some (.int (f i)) ∧ w = wQ t o z m f ml (nI k)) := by
  refine cm_of RJ4 rfl (by decide +kernel) (Nat.le_of_ble_eq_true rfl) (fun X hX hE => ?_)
  change J X 0 0 (wQ t o z m f ml (nI k)) 0 [(0, .ref o), (1, .int (nI i))] []
  refine j_aload_n hX dJ4_charAt_5068e_0 rfl 0 rfl ?_
  refine j_iload_n hX dJ4_charAt_5068e_1 rfl 1 rfl ?_
  refine j_callSU (a := 0) (b := 0) (st := []) hX (k_J5_charAt_5068e (t := t) hi hkm hm hA) q1308 q1309 qSup q11 q1310 qSm_J5_charAt_5068e (by decide +kernel) (n9 := 1) rfl ⟨by decide +kernel, by decide +kernel⟩ 0 (ci := 1) rfl rfl rfl dJ4_charAt_5068e_2 (Nat.le_of_ble_eq_true rfl) ⟨by decide, by decide⟩ (fun w : va_W => w) jFr_id rfl rfl (fun v w hvw => ?_)
  obtain ⟨rfl, rfl⟩ := hvw
  change J X 0 0 ([(o, .inr (1, [.ref z, .int 0, .int ml, .int (nI k)])), (z, .inl (t 2, m, .inl f))]) 5 [(0, .ref o), (1, .int (nI i))] [.int (f i)]
  obtain ⟨c, hc, ec⟩ := hA i
  exact j_zret hX hE (by rw [ec]; exact (pk_charN (by omega)).1) dJ4_charAt_5068e_5 (Nat.le_refl _) (Nat.le_refl _) ⟨rfl, rfl⟩

theorem j_mx {a b : Nat} (ha : a < 2147483648) (hb : b < 2147483648) : jmax (nI a) (nI b) = nI (if a < b then b else a) := by
  unfold jmax
  by_cases q : a < b
  · rw [if_pos q, if_pos (nI_lt q hb)]
  · rw [if_neg q, if_neg (nI_nlt (by omega) ha)]
section JDrop
theorem j_dropP {X : jX} {a b : Nat} {ws : va_W} {pc : Nat} {ls : List (Nat × Value)} {st : List Value} (ws' ex : va_W) (hp : ws.Perm (ws' ++ ex)) (kk : J X a b ws' pc ls st) : J X a b ws pc ls st := by
  obtain ⟨p, l, e, R, s, m, args, below, meth, c, D, T, A, nL1, Q⟩ := X
  intro H locs sl hP hD hS hv
  refine kk H locs sl (jP_perm (fun z hz => hp.symm.subset (List.mem_append_left _ hz)) hP) ?_ hS hv
  obtain ⟨h1, h2⟩ := jD_iff.mp (jD_perm hp.symm hD)
  rw [List.map_append, List.nodup_append] at h1
  exact jD_iff.mpr ⟨h1.1, fun q hq => h2 q (List.mem_append_left _ hq)⟩
end JDrop
set_option maxHeartbeats 4000000 in
set_option maxRecDepth 100000 in
theorem k_J5_isLatin1_aae02 {l : Launch} {D : va_G} {t : Nat → ClassId} {o z m : Nat} {f : Nat → Int32} {ml n : Int32} : cm l D (jT t) yJ5_isLatin1_aae02 cJ5_isLatin1_aae02 1 (some FieldType.boolean) { frames := 0, cells := 0, slots := 0, locals := 0 } [.ref o] (wQ t o z m f ml n) (fun v w => v = some (.int 1) ∧ w = wQ t o z m f ml n) := by
  refine cm_of RJ5 rfl (by decide +kernel) (Nat.le_of_ble_eq_true rfl) (fun X hX hE => ?_)
  change J X 0 0 (wQ t o z m f ml n) 0 [(0, .ref o)] []
  refine j_gets hX j_comp q166 dJ5_isLatin1_aae02_0 ?_
  refine j_if_eq (α := Unit) (F := none) (G := none) (o := none) hX 17 dJ5_isLatin1_aae02_3 (by decide) (ite_self none) (fun hq9 _ => absurd hq9 (by decide)) (fun _ _ => ?_)
  refine j_aload_n hX dJ5_isLatin1_aae02_6 rfl 0 rfl ?_
  refine j_get hX dJ5_isLatin1_aae02_7 inJ4 1 q175 0 rfl rfl (by decide) rfl rfl ?_
  refine j_if_ne (α := Unit) (F := none) (G := none) (o := none) hX 17 dJ5_isLatin1_aae02_10 (by decide) (ite_self none) (fun hq9 _ => absurd hq9 (by decide)) (fun _ _ => ?_)
  refine j_iconst hX 1 dJ5_isLatin1_aae02_13 (by decide) ?_
  refine j_goto hX 18 dJ5_isLatin1_aae02_14 (by decide) ?_
  exact j_zret hX hE rfl dJ5_isLatin1_aae02_18 (Nat.le_refl _) (Nat.le_refl _) ⟨rfl, rfl⟩
set_option maxHeartbeats 4000000 in
set_option maxRecDepth 100000 in
theorem k_J5_length_8abf5 {l : Launch} {D : va_G} {t : Nat → ClassId} {o z m : Nat} {f : Nat → Int32} {ml n : Int32} : cm l D (jT t) yJ5_length_8abf5 cJ5_length_8abf5 1 (some FieldType.int) { frames := 0, cells := 0, slots := 0, locals := 0 } [.ref o] (wQ t o z m f ml n) (fun v w => v = some (.int n) ∧ w = wQ t o z m f ml n) := by
  refine cm_of RJ5 rfl (by decide +kernel) (Nat.le_of_ble_eq_true rfl) (fun X hX hE => ?_)
  change J X 0 0 (wQ t o z m f ml n) 0 [(0, .ref o)] []
  refine j_aload_n hX dJ5_length_8abf5_0 rfl 0 rfl ?_
  refine j_get hX dJ5_length_8abf5_1 inJ4 3 q178 0 rfl rfl (by decide) rfl rfl ?_
  exact j_iret hX hE dJ5_length_8abf5_4 (Nat.le_refl _) (Nat.le_refl _) ⟨rfl, rfl⟩
set_option maxHeartbeats 4000000 in
set_option maxRecDepth 100000 in
theorem k_J4_length_8abf5 {l : Launch} {D : va_G} {t : Nat → ClassId} {o z m : Nat} {f : Nat → Int32} {ml n : Int32} : cm l D (jT t) yJ4_length_8abf5 cJ4_length_8abf5 1 (some FieldType.int) { frames := 1, cells := 0, slots := 0, locals := 20 } [.ref o] (wQ t o z m f ml n) (fun v w => v = some (.int n) ∧ w = wQ t o z m f ml n) := by
  refine cm_of RJ4 rfl (by decide +kernel) (Nat.le_of_ble_eq_true rfl) (fun X hX hE => ?_)
  change J X 0 0 (wQ t o z m f ml n) 0 [(0, .ref o)] []
  refine j_aload_n hX dJ4_length_8abf5_0 rfl 0 rfl ?_
  refine j_callSU (st := []) hX k_J5_length_8abf5 q1209 q1205 qSup q11 q1210 qSm_J5_length_8abf5 (by decide +kernel) (n9 := 0) rfl ⟨by decide +kernel, by decide +kernel⟩ 0 (ci := 1) rfl rfl rfl dJ4_length_8abf5_1 (Nat.le_of_ble_eq_true rfl) ⟨by decide, by decide⟩ (fun w : va_W => w) jFr_id rfl rfl (fun v w hvw => ?_)
  obtain ⟨rfl, rfl⟩ := hvw
  change J X 0 0 ([(o, .inr (1, [.ref z, .int 0, .int ml, .int n])), (z, .inl (t 2, m, .inl f))]) 4 [(0, .ref o)] [.int n]
  exact j_iret hX hE dJ4_length_8abf5_4 (Nat.le_refl _) (Nat.le_refl _) ⟨rfl, rfl⟩
set_option maxHeartbeats 4000000 in
set_option maxRecDepth 100000 in
theorem k_J1_canEncode_fc78d {l : Launch} {D : va_G} {t : Nat → ClassId} {c : Nat} (hc : c < 128) : cm l D (jT t) yJ1_canEncode_fc78d cJ1_canEncode_fc78d 1 (some FieldType.boolean) { frames := 0, cells := 0, slots := 0, locals := 0 } [.int (nI c)] ([]) (fun v w => v = some (.int 1) ∧ w = []) := by
  refine cm_of RJ1 rfl (by decide +kernel) (Nat.le_of_ble_eq_true rfl) (fun X hX hE => ?_)
  change J X 0 0 ([]) 0 [(0, .int (nI c))] []
  have hc9 : ¬ (255 : Int32) < nI c := by rw [z_llt (by omega) (by omega)]; omega
  refine j_iload_n hX dJ1_canEncode_fc78d_0 rfl 0 rfl ?_
  refine j_sipush hX 255 dJ1_canEncode_fc78d_1 (by decide) ?_
  refine j_icmp_gt (α := Unit) (F := none) (G := none) (o := none) hX 11 dJ1_canEncode_fc78d_4 (by decide) (ite_self none) (fun hq9 _ => absurd hq9 hc9) (fun _ _ => ?_)
  refine j_iconst hX 1 dJ1_canEncode_fc78d_7 (by decide) ?_
  refine j_goto hX 12 dJ1_canEncode_fc78d_8 (by decide) ?_
  exact j_zret hX hE rfl dJ1_canEncode_fc78d_12 (Nat.le_refl _) (Nat.le_refl _) ⟨rfl, rfl⟩
set_option maxHeartbeats 4000000 in
set_option maxRecDepth 100000 in
theorem k_J8_newLength_cabcc {l : Launch} {D : va_G} {t : Nat → ClassId} {a1 a2 a3 : Nat} (h1 : a1 < 400) (h2 : a2 < 400) (h3 : a3 < 400) (h0 : 0 < a1 + a2) : cm l D (jT t) yJ8_newLength_cabcc cJ8_newLength_cabcc 4 (some FieldType.int) { frames := 1, cells := 0, slots := 0, locals := 40 } [.int (nI a1), .int (nI a2), .int (nI a3)] ([]) (fun v w => v = some (.int (nI (a1 + (if a2 < a3 then a3 else a2)))) ∧ w = []) := by
  refine cm_of RJ8 rfl (by decide +kernel) (Nat.le_of_ble_eq_true rfl) (fun X hX hE => ?_)
  change J X 0 0 ([]) 0 [(0, .int (nI a1)), (1, .int (nI a2)), (2, .int (nI a3))] []
  refine j_iload_n hX dJ8_newLength_cabcc_0 rfl 0 rfl ?_
  refine j_iload_n hX dJ8_newLength_cabcc_1 rfl 1 rfl ?_
  refine j_iload_n hX dJ8_newLength_cabcc_2 rfl 2 rfl ?_
  refine j_mmax hX q1082 dJ8_newLength_cabcc_3 (Nat.le_of_ble_eq_true rfl) (by decide) ⟨Nat.le_refl _, Nat.le_refl _⟩ ?_
  rw [show jmax (nI a2) (nI a3) = nI (if a2 < a3 then a3 else a2) from j_mx (by omega) (by omega)]
  refine j_iadd hX dJ8_newLength_cabcc_6 ?_
  rw [nI_add]
  have hb9 : (a1 + (if a2 < a3 then a3 else a2)) < 1000 ∧ 0 < (a1 + (if a2 < a3 then a3 else a2)) := by split <;> omega
  have hl9 : ¬ nI (a1 + (if a2 < a3 then a3 else a2)) ≤ (0 : Int32) := by rw [show (0 : Int32) = nI 0 from rfl, z_le (by omega) (by omega)]; omega
  have hg9 : ¬ (2147483639 : Int32) < nI (a1 + (if a2 < a3 then a3 else a2)) := by rw [z_llt (by omega) (by omega)]; omega
  refine j_istore_n hX [(3, .int (nI (a1 + (if a2 < a3 then a3 else a2)))), (0, .int (nI a1)), (1, .int (nI a2)), (2, .int (nI a3))] dJ8_newLength_cabcc_7 rfl (by decide) rfl ?_
  refine j_iconst hX 0 dJ8_newLength_cabcc_8 (by decide) ?_
  refine j_iload_n hX dJ8_newLength_cabcc_9 rfl 0 rfl ?_
  refine j_icmp_ge (α := Unit) (F := none) (G := none) (o := none) hX 21 dJ8_newLength_cabcc_10 (by decide) (ite_self none) (fun hq9 _ => absurd hq9 hl9) (fun _ _ => ?_)
  refine j_iload_n hX dJ8_newLength_cabcc_13 rfl 0 rfl ?_
  refine j_ldc hX q1083 dJ8_newLength_cabcc_14 ?_
  refine j_icmp_gt (α := Unit) (F := none) (G := none) (o := none) hX 21 dJ8_newLength_cabcc_16 (by decide) (ite_self none) (fun hq9 _ => absurd hq9 hg9) (fun _ _ => ?_)
  refine j_iload_n hX dJ8_newLength_cabcc_19 rfl 0 rfl ?_
  exact j_iret hX hE dJ8_newLength_cabcc_20 (Nat.le_refl _) (Nat.le_refl _) ⟨rfl, rfl⟩
set_option maxHeartbeats 4000000 in
set_option maxRecDepth 100000 in
theorem k_J5_newCapacity_0f7a4 {l : Launch} {D : va_G} {t : Nat → ClassId} {o z m q : Nat} {f : Nat → Int32} {ml n : Int32} (hm : m ≤ 100) (hq : m < q) (hq2 : q ≤ 100) : cm l D (jT t) yJ5_newCapacity_0f7a4 cJ5_newCapacity_0f7a4 6 (some FieldType.int) { frames := 2, cells := 0, slots := 0, locals := 63 } [.ref o, .int (nI q)] (wQ t o z m f ml n) (fun v w => v = some (.int (nI (m + (if q - m < m + 2 then m + 2 else q - m)))) ∧ w = wQ t o z m f ml n) := by
  refine cm_of RJ5 rfl (by decide +kernel) (Nat.le_of_ble_eq_true rfl) (fun X hX hE => ?_)
  change J X 0 0 (wQ t o z m f ml n) 0 [(0, .ref o), (1, .int (nI q))] []
  refine j_aload_n hX dJ5_newCapacity_0f7a4_0 rfl 0 rfl ?_
  refine j_get hX dJ5_newCapacity_0f7a4_1 inJ4 0 q174 0 rfl rfl (by decide) rfl rfl ?_
  refine j_alen hX (Int32.ofNat m) dJ5_newCapacity_0f7a4_4 1 2 rfl rfl rfl ?_
  refine j_istore_n hX [(2, .int (Int32.ofNat m)), (0, .ref o), (1, .int (nI q))] dJ5_newCapacity_0f7a4_5 rfl (by decide) rfl ?_
  refine j_iload_n hX dJ5_newCapacity_0f7a4_6 rfl 2 rfl ?_
  refine j_aload_n hX dJ5_newCapacity_0f7a4_7 rfl 1 rfl ?_
  refine j_get hX dJ5_newCapacity_0f7a4_8 inJ4 1 q175 0 rfl rfl (by decide) rfl rfl ?_
  refine j_ishl hX dJ5_newCapacity_0f7a4_11 ?_
  rw [sb_shl0]
  refine j_istore_n hX [(3, .int (nI q)), (2, .int (Int32.ofNat m)), (0, .ref o), (1, .int (nI q))] dJ5_newCapacity_0f7a4_12 rfl (by decide) rfl ?_
  refine j_iload_n hX dJ5_newCapacity_0f7a4_13 rfl 0 rfl ?_
  refine j_iload_n hX dJ5_newCapacity_0f7a4_14 rfl 1 rfl ?_
  refine j_isub hX dJ5_newCapacity_0f7a4_15 ?_
  rw [show nI q - Int32.ofNat m = nI (q - m) from pk_sub (by omega)]
  refine j_istore hX [(4, .int (nI (q - m))), (3, .int (nI q)), (2, .int (Int32.ofNat m)), (0, .ref o), (1, .int (nI q))] dJ5_newCapacity_0f7a4_16 (by decide) rfl ?_
  refine j_iload_n hX dJ5_newCapacity_0f7a4_18 rfl 2 rfl ?_
  refine j_iload hX dJ5_newCapacity_0f7a4_19 0 rfl ?_
  refine j_iload_n hX dJ5_newCapacity_0f7a4_21 rfl 2 rfl ?_
  refine j_iconst hX 2 dJ5_newCapacity_0f7a4_22 (by decide) ?_
  refine j_aload_n hX dJ5_newCapacity_0f7a4_23 rfl 3 rfl ?_
  refine j_get hX dJ5_newCapacity_0f7a4_24 inJ4 1 q175 0 rfl rfl (by decide) rfl rfl ?_
  refine j_ishl hX dJ5_newCapacity_0f7a4_27 ?_
  rw [sb_shl0]
  refine j_iadd hX dJ5_newCapacity_0f7a4_28 ?_
  rw [show Int32.ofNat m + (2 : Int32) = nI (m + 2) from nI_add m 2]
  change J X 0 0 ([(o, .inr (1, [.ref z, .int 0, .int ml, .int n])), (z, .inl (t 2, m, .inl f))]) 29 [(4, .int (nI (q - m))), (3, .int (nI q)), (2, .int (nI m)), (0, .ref o), (1, .int (nI q))] [.int (nI (m + 2)), .int (nI (q - m)), .int (nI m)]
  refine j_callS (st := []) hX (k_J8_newLength_cabcc (t := t) (a1 := m) (a2 := q - m) (a3 := m + 2) (by omega) (by omega) (by omega) (by omega)) q1079 q1080 q32 q1081 (n9 := 3) rfl ⟨by decide +kernel, by decide +kernel⟩ dJ5_newCapacity_0f7a4_29 (Nat.le_of_ble_eq_true rfl) ⟨by decide, by decide⟩ (fun w : va_W => w ++ (wQ t o z m f ml n)) (jFr_r _) rfl rfl (fun v w hvw => ?_)
  obtain ⟨rfl, rfl⟩ := hvw
  change J X 0 0 ([(o, .inr (1, [.ref z, .int 0, .int ml, .int n])), (z, .inl (t 2, m, .inl f))]) 32 [(4, .int (nI (q - m))), (3, .int (nI q)), (2, .int (nI m)), (0, .ref o), (1, .int (nI q))] [.int (nI (m + (if q - m < m + 2 then m + 2 else q - m)))]
  refine j_istore hX [(5, .int (nI (m + (if q - m < m + 2 then m + 2 else q - m)))), (4, .int (nI (q - m))), (3, .int (nI q)), (2, .int (nI m)), (0, .ref o), (1, .int (nI q))] dJ5_newCapacity_0f7a4_32 (by decide) rfl ?_
  refine j_iload hX dJ5_newCapacity_0f7a4_34 0 rfl ?_
  refine j_ldc hX q1087 dJ5_newCapacity_0f7a4_36 ?_
  have hc9 : (m + (if q - m < m + 2 then m + 2 else q - m)) < 1000 := by split <;> omega
  have hn9 : ¬ nI (m + (if q - m < m + 2 then m + 2 else q - m)) = (2147483647 : Int32) := by rw [z_eql (by omega) (by omega)]; omega
  refine j_icmp_ne (α := Unit) (F := none) (G := none) (o := none) hX 51 dJ5_newCapacity_0f7a4_38 (by decide) (ite_self none) (fun _ _ => ?_) (fun hq9 _ => absurd hq9 hn9)
  refine j_iload hX dJ5_newCapacity_0f7a4_51 0 rfl ?_
  refine j_aload_n hX dJ5_newCapacity_0f7a4_53 rfl 4 rfl ?_
  refine j_get hX dJ5_newCapacity_0f7a4_54 inJ4 1 q175 0 rfl rfl (by decide) rfl rfl ?_
  refine j_ishr hX dJ5_newCapacity_0f7a4_57 ?_
  rw [sb_shr0]
  exact j_iret hX hE dJ5_newCapacity_0f7a4_58 (Nat.le_refl _) (Nat.le_refl _) ⟨rfl, rfl⟩
set_option maxHeartbeats 4000000 in
set_option maxRecDepth 100000 in
theorem k_J7_copyOf_9075b {l : Launch} {D : va_G} {t : Nat → ClassId} {z m q : Nat} {f : Nat → Int32} (hm : m ≤ 100) (hq : m < q) (hq2 : q ≤ 100) (hfit : ∀ j, fits .byte (.int (f j)) = true) : cm l D (jT t) yJ7_copyOf_9075b cJ7_copyOf_9075b 3 (some (FieldType.array FieldType.byte)) { frames := 1, cells := 1, slots := 100, locals := 80 } [.ref z, .int (nI q)] ([(z, .inl (t 2, m, .inl f))]) (fun v w => ∃ z2 : Nat, v = some (.ref z2) ∧ w = [(z, .inl (t 2, m, .inl f)), (z2, .inl (t 2, q, .inl (va_cpy f (fun _ => 0) 0 0 m)))]) := by
  refine cm_of RJ7 rfl (by decide +kernel) (Nat.le_of_ble_eq_true rfl) (fun X hX hE => ?_)
  change J X 0 0 ([(z, .inl (t 2, m, .inl f))]) 0 [(0, .ref z), (1, .int (nI q))] []
  refine j_iload_n hX dJ7_copyOf_9075b_0 rfl 1 rfl ?_
  refine j_aload_n hX dJ7_copyOf_9075b_1 rfl 0 rfl ?_
  refine j_alen hX (Int32.ofNat m) dJ7_copyOf_9075b_2 0 2 rfl rfl rfl ?_
  have hn9 : ¬ nI q = Int32.ofNat m := by rw [show Int32.ofNat m = nI m from rfl, z_eq (by omega) (by omega)]; omega
  refine j_icmp_ne (α := Unit) (F := none) (G := none) (o := none) hX 14 dJ7_copyOf_9075b_3 (by decide) (ite_self none) (fun _ _ => ?_) (fun hq9 _ => absurd hq9 hn9)
  refine j_iload_n hX dJ7_copyOf_9075b_14 rfl 1 rfl ?_
  refine j_newa (atype := .byte) hX 2 rfl qAbyte rfl (q, .inl (fun _ => 0)) (fun _ => rfl) (nI_pos (by omega)) (z_cl (by omega)) (by show q * 1 ≤ _; omega) ⟨Nat.le_of_ble_eq_true rfl, (by show 0 + q ≤ 100; omega)⟩ dJ7_copyOf_9075b_15 (fun z2 => ?_)
  change J X 1 (0 + q) ([(z, .inl (t 2, m, .inl f)), (z2, .inl (t 2, q, .inl (fun _ => 0)))]) 17 [(0, .ref z), (1, .int (nI q))] [.ref z2]
  refine j_astore_n hX [(2, .ref z2), (0, .ref z), (1, .int (nI q))] dJ7_copyOf_9075b_17 rfl (by decide) rfl ?_
  refine j_aload_n hX dJ7_copyOf_9075b_18 rfl 1 rfl ?_
  refine j_iconst hX 0 dJ7_copyOf_9075b_19 (by decide) ?_
  refine j_aload_n hX dJ7_copyOf_9075b_20 rfl 0 rfl ?_
  refine j_iconst hX 0 dJ7_copyOf_9075b_21 (by decide) ?_
  refine j_aload_n hX dJ7_copyOf_9075b_22 rfl 1 rfl ?_
  refine j_alen hX (Int32.ofNat m) dJ7_copyOf_9075b_23 0 2 rfl rfl rfl ?_
  refine j_iload_n hX dJ7_copyOf_9075b_24 rfl 2 rfl ?_
  refine j_mmin hX q1097 dJ7_copyOf_9075b_25 (Nat.le_of_ble_eq_true rfl) (by decide) ⟨Nat.le_of_ble_eq_true rfl, (by show 0 + q ≤ 100; omega)⟩ ?_
  rw [show jmin (Int32.ofNat m) (nI q) = nI m by unfold jmin; rw [show Int32.ofNat m = nI m from rfl, if_neg (by rw [z_lt (by omega) (by omega)]; omega)]]
  refine j_copyb hX (ws := [(z, .inl (t 2, m, .inl f)), (z2, .inl (t 2, q, .inl (fun _ => 0)))]) ([(z, .inl (t 2, m, .inl f)), (z2, .inl (t 2, q, .inl (va_cpy f (fun _ => 0) 0 0 m)))]) q1098 dJ7_copyOf_9075b_28 0 1 2 rfl rfl rfl rfl (by rw [z_cl (by omega)]; rfl) (by simp only [jcp, Bool.and_eq_true, decide_eq_true_eq]; exact ⟨⟨⟨⟨by decide, by decide⟩, nI_pos (by omega)⟩, by rw [z_cl (by omega)]; show 0 + m ≤ m; omega⟩, by rw [z_cl (by omega)]; show 0 + m ≤ q; omega⟩) (fun i hi => hfit _) (Nat.le_of_ble_eq_true rfl) (by decide +kernel) ?_
  refine j_aload_n hX dJ7_copyOf_9075b_31 rfl 0 rfl ?_
  exact j_aret hX hE (Or.inr ⟨_, rfl⟩) dJ7_copyOf_9075b_32 (Nat.le_of_ble_eq_true rfl) (by show 0 + q ≤ 100; omega) ⟨_, rfl, rfl⟩

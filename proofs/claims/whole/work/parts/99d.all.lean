/-! ALL TURNS -/
theorem l_inv0 : lInv 0 lS0 := ⟨zRel_init (fun _ _ => rfl) (fun x _ => rfl), zHist_init _ _, zSnap_init _ _, zTx_init _ _, rfl, rfl, rfl, rfl, lLn_nil _⟩
abbrev l47 : Prop := ∀ (T : Nat) (s : lS), lInv T s → T < 900000 → ∃ s9, lT_47 s = some s9 ∧ lInv (T + 465) s9
set_option maxRecDepth 100000 in
theorem p_turn (h47 : l47) {T : Nat} {s : lS} (I : lInv T s) (hT : T < 900000) (c e1 e2 e3 e4 e5 : Int32) : ∃ s9, lTurn c e1 e2 e3 e4 e5 s = some s9 ∧ lInv (T + 465) s9 := by
  unfold lTurn
  by_cases c0 : c = 0
  · rw [if_pos c0]; exact p_0 I hT e1 e2
  rw [if_neg c0]
  by_cases c1 : c = 1
  · rw [if_pos c1]; exact p_1 I hT e1 e2
  rw [if_neg c1]
  by_cases c2 : c = 2
  · rw [if_pos c2]; exact p_2 I hT e1 e2 e3
  rw [if_neg c2]
  by_cases c3 : c = 3
  · rw [if_pos c3]; exact p_3 I hT e1 e2 e3 e4 e5
  rw [if_neg c3]
  by_cases c4 : c = 4
  · rw [if_pos c4]; exact p_4 I hT e1
  rw [if_neg c4]
  by_cases c5 : c = 5
  · rw [if_pos c5]; exact p_5 I hT e1
  rw [if_neg c5]
  by_cases c6 : c = 6
  · rw [if_pos c6]; exact p_6 I hT 
  rw [if_neg c6]
  by_cases c7 : c = 7
  · rw [if_pos c7]; exact p_7 I hT e1 e2 e3
  rw [if_neg c7]
  by_cases c8 : c = 8
  · rw [if_pos c8]; exact p_8 I hT e1
  rw [if_neg c8]
  by_cases c9 : c = 9
  · rw [if_pos c9]; exact p_9 I hT e1
  rw [if_neg c9]
  by_cases c10 : c = 10
  · rw [if_pos c10]; exact p_10 I hT 
  rw [if_neg c10]
  by_cases c11 : c = 11
  · rw [if_pos c11]; exact p_11 I hT e1
  rw [if_neg c11]
  by_cases c12 : c = 12
  · rw [if_pos c12]; exact p_12 I hT e1
  rw [if_neg c12]
  by_cases c13 : c = 13
  · rw [if_pos c13]; exact p_13 I hT e1
  rw [if_neg c13]
  by_cases c14 : c = 14
  · rw [if_pos c14]; exact p_14 I hT e1
  rw [if_neg c14]
  by_cases c15 : c = 15
  · rw [if_pos c15]; exact p_15 I hT e1
  rw [if_neg c15]
  by_cases c16 : c = 16
  · rw [if_pos c16]; exact p_16 I hT e1
  rw [if_neg c16]
  by_cases c17 : c = 17
  · rw [if_pos c17]; exact p_17 I hT e1
  rw [if_neg c17]
  by_cases c18 : c = 18
  · rw [if_pos c18]; exact p_18 I hT e1 e2
  rw [if_neg c18]
  by_cases c19 : c = 19
  · rw [if_pos c19]; exact p_19 I hT e1
  rw [if_neg c19]
  by_cases c20 : c = 20
  · rw [if_pos c20]; exact p_20 I hT e1 e2
  rw [if_neg c20]
  by_cases c21 : c = 21
  · rw [if_pos c21]; exact p_21 I hT 
  rw [if_neg c21]
  by_cases c22 : c = 22
  · rw [if_pos c22]; exact p_22 I hT e1
  rw [if_neg c22]
  by_cases c23 : c = 23
  · rw [if_pos c23]; exact p_23 I hT e1 e2
  rw [if_neg c23]
  by_cases c24 : c = 24
  · rw [if_pos c24]; exact p_24 I hT e1
  rw [if_neg c24]
  by_cases c25 : c = 25
  · rw [if_pos c25]; exact p_25 I hT 
  rw [if_neg c25]
  by_cases c26 : c = 26
  · rw [if_pos c26]; exact p_26 I hT 
  rw [if_neg c26]
  by_cases c27 : c = 27
  · rw [if_pos c27]; exact p_27 I hT e1 e2
  rw [if_neg c27]
  by_cases c28 : c = 28
  · rw [if_pos c28]; exact p_28 I hT e1
  rw [if_neg c28]
  by_cases c29 : c = 29
  · rw [if_pos c29]; exact p_29 I hT e1 e2
  rw [if_neg c29]
  by_cases c30 : c = 30
  · rw [if_pos c30]; exact p_30 I hT e1
  rw [if_neg c30]
  by_cases c31 : c = 31
  · rw [if_pos c31]; exact p_31 I hT e1
  rw [if_neg c31]
  by_cases c32 : c = 32
  · rw [if_pos c32]; exact p_32 I hT e1
  rw [if_neg c32]
  by_cases c33 : c = 33
  · rw [if_pos c33]; exact p_33 I hT e1
  rw [if_neg c33]
  by_cases c34 : c = 34
  · rw [if_pos c34]; exact p_34 I hT e1
  rw [if_neg c34]
  by_cases c35 : c = 35
  · rw [if_pos c35]; exact p_35 I hT 
  rw [if_neg c35]
  by_cases c36 : c = 36
  · rw [if_pos c36]; exact p_36 I hT 
  rw [if_neg c36]
  by_cases c37 : c = 37
  · rw [if_pos c37]; exact p_37 I hT 
  rw [if_neg c37]
  by_cases c38 : c = 38
  · rw [if_pos c38]; exact p_38 I hT 
  rw [if_neg c38]
  by_cases c39 : c = 39
  · rw [if_pos c39]; exact p_39 I hT 
  rw [if_neg c39]
  by_cases c40 : c = 40
  · rw [if_pos c40]; exact p_40 I hT 
  rw [if_neg c40]
  by_cases c41 : c = 41
  · rw [if_pos c41]; exact p_41 I hT 
  rw [if_neg c41]
  by_cases c42 : c = 42
  · rw [if_pos c42]; exact p_42 I hT 
  rw [if_neg c42]
  by_cases c43 : c = 43
  · rw [if_pos c43]; exact p_43 I hT e1
  rw [if_neg c43]
  by_cases c44 : c = 44
  · rw [if_pos c44]; exact p_44 I hT e1
  rw [if_neg c44]
  by_cases c45 : c = 45
  · rw [if_pos c45]; exact p_45 I hT e1
  rw [if_neg c45]
  by_cases c46 : c = 46
  · rw [if_pos c46]; exact p_46 I hT e1
  rw [if_neg c46]
  by_cases c47 : c = 47
  · rw [if_pos c47]; exact h47 T s I hT
  rw [if_neg c47]
  by_cases c48 : c = 48
  · rw [if_pos c48]; exact p_48 I hT 
  rw [if_neg c48]
  by_cases c49 : c = 49
  · rw [if_pos c49]; exact p_49 I hT 
  rw [if_neg c49]
  by_cases c50 : c = 50
  · rw [if_pos c50]; exact p_50 I hT 
  rw [if_neg c50]
  by_cases c51 : c = 51
  · rw [if_pos c51]; exact p_51 I hT 
  rw [if_neg c51]
  by_cases c52 : c = 52
  · rw [if_pos c52]; exact p_52 I hT 
  rw [if_neg c52]
  exact ⟨s, rfl, lInv_mono I (by omega)⟩
theorem l_run (h47 : l47) {xs : Nat → Int32} {L : Nat} : ∀ (n i T : Nat) (s : lS), lInv T s → T + 465 * n ≤ 800000 → 0 < n → L < 6 * n + i → ∃ s9, lRun xs L n i s = some s9 := by
  intro n
  induction n with
  | zero => intro i T s _ _ h; omega
  | succ n ih =>
    intro i T s I hT _ hL
    unfold lRun
    by_cases c : i + 6 ≤ L
    · rw [if_pos c]
      obtain ⟨s1, h1, I1⟩ := p_turn h47 I (by omega) (xs i &&& 63) (xs (i + 1)) (xs (i + 2)) (xs (i + 3)) (xs (i + 4)) (xs (i + 5))
      rw [h1, z_bind]
      exact ih (i + 6) (T + 465) s1 I1 (by omega) (by omega) (by omega)
    · rw [if_neg c]
      exact ⟨s, rfl⟩
theorem l_all (h47 : l47) {xs : Nat → Int32} {L : Nat} (hL : L ≤ 3072) : ∃ s9, lRun xs L 520 0 lS0 = some s9 := l_run h47 520 0 0 lS0 l_inv0 (by decide) (by decide) (by omega)

/-! PURE: reading a sign of the script, both sides -/
abbrev zDg (c : Int32) : Prop := (48 : Int32) ≤ c ∧ c ≤ 57
section ZD
variable {l p : Nat} {pt inp : Nat → Int32}
theorem x6_isDigit (hl : l ≤ 60) (hp : p ≤ l) : f_X6_isDigitHere pt (nI l) (nI p) = some (if p < l ∧ zDg (pt p) then 1 else 0) := by
  unfold f_X6_isDigitHere
  rw [if_neg (nI_pos (by omega))]
  by_cases c : p < l
  · rw [if_neg (nI_ge c (by omega)), if_neg (show ¬ (60 : Int32) ≤ nI p from nI_ge (b := 60) (by omega) (by omega)), if_pos (show jin (nI p) 60 = true by rw [z_jin (by omega)]; simp; omega), if_pos (show jin (nI p) 60 = true by rw [z_jin (by omega)]; simp; omega), z_cl (by omega)]
    by_cases d : pt p < 48
    · rw [if_pos d, if_neg (fun h => (fa_of_lt d).2.1 h.2.1)]
    · rw [if_neg d]
      by_cases e : 57 < pt p
      · rw [if_pos e, if_neg (fun h => (fa_of_lt e).2.1 h.2.2)]
      · rw [if_neg e, if_pos ⟨c, fa_of_nlt d, fa_of_nlt e⟩]
  · rw [if_pos (nI_le (by omega) (by omega)), if_neg (fun h => c h.1)]
theorem x6_readCharacter (a : Int32) (hl : l ≤ 60) (hp : p ≤ l) : f_X6_readCharacter pt (nI l) (nI p) a = some (if p < l ∧ pt p = a then (1, nI (p + 1)) else (0, nI p)) := by
  unfold f_X6_readCharacter
  rw [if_neg (nI_pos (by omega))]
  by_cases c : p < l
  · rw [if_neg (nI_ge c (by omega)), if_neg (show ¬ (60 : Int32) ≤ nI p from nI_ge (b := 60) (by omega) (by omega)), if_pos (show jin (nI p) 60 = true by rw [z_jin (by omega)]; simp; omega), z_cl (by omega), nI_1]
    by_cases d : pt p = a
    · rw [if_pos d, if_pos ⟨c, d⟩]
    · rw [if_neg d, if_neg (fun h => d h.2)]
  · rw [if_pos (nI_le (by omega) (by omega)), if_neg (fun h => c h.1)]
theorem x10_here (hl : l ≤ 60) (hp : p ≤ l) : f_X10_here inp (nI p) (nI l) = some (if p < l then inp p else -1) := by
  unfold f_X10_here
  by_cases c : p < l
  · rw [if_neg (nI_ge c (by omega)), if_pos (show jin (nI p) 60 = true by rw [z_jin (by omega)]; simp; omega), z_cl (by omega), if_pos c]
  · rw [if_pos (nI_le (by omega) (by omega)), if_neg c]
theorem x10_expects (a : Int32) (ha : ¬ a = -1) (hl : l ≤ 60) (hp : p ≤ l) : f_X10_expects inp (nI p) (nI l) 0 a = some (if p < l ∧ inp p = a then (nI (p + 1), 0) else (nI p, 1)) := by
  unfold f_X10_expects
  rw [if_pos rfl, x10_here hl hp, z_bind, nI_1, Int32.add_zero]
  by_cases c : p < l
  · rw [if_pos c]
    by_cases d : inp p = a
    · rw [if_pos d, if_pos ⟨c, d⟩]
    · rw [if_neg d, if_neg (fun h => d h.2)]
  · rw [if_neg c, if_neg (show ¬ (-1 : Int32) = a from fun h => ha h.symm), if_neg (fun h => c h.1)]
theorem x10_expectsW (q : Int32) (a s : Int32) {w : Int32} (hw : ¬ w = 0) : f_X10_expects inp q s w a = some (q, 1) := by
  unfold f_X10_expects
  rw [if_neg hw, Int32.add_zero]
theorem x10_digitW (q s : Int32) {w : Int32} (hw : ¬ w = 0) : f_X10_digit inp q s w = some (0, q, 1) := by
  unfold f_X10_digit
  rw [if_neg hw, Int32.add_zero]
theorem x10_digit (hl : l ≤ 60) (hp : p ≤ l) : f_X10_digit inp (nI p) (nI l) 0 = some (if p < l ∧ zDg (inp p) then (inp p - 48, nI (p + 1), 0) else (0, nI p, 1)) := by
  unfold f_X10_digit
  rw [if_pos rfl, x10_here hl hp, z_bind, nI_1, Int32.add_zero]
  by_cases c : p < l
  · rw [if_pos c]
    by_cases d : zDg (inp p)
    · rw [z_inT (y := 48) (z := 57) (nI 48) (nI 57) rfl rfl d, z_bind, if_neg z_n10, z_bind, if_pos ⟨c, d⟩]
    · rw [z_inF (y := 48) (z := 57) (nI 48) (nI 57) rfl rfl d, z_bind, if_pos rfl, if_neg (fun h => d h.2)]
  · rw [if_neg c, show f_X10_in ((-1 : Int32)).toInt64 48 57 = some 0 from by decide, z_bind, if_pos rfl, if_neg (fun h => c h.1)]
end ZD

/-! PURE: characters typed, and where reading failed -/
/-- what is typed and not yet read: the class' text and the model's input -/
def zTx (pt : Nat → Int32) (pl : Int32) (inp : Nat → Int32) (many : Int32) : Prop := ∃ l, l ≤ 60 ∧ pl = nI l ∧ many = nI l ∧ ∀ k, k < l → pt k = inp k
theorem z_32 (a : Int32) : (¬ a < 32 ∧ a ≤ 126 ∧ (nI 32 ≤ a ∧ a ≤ nI 126)) ∨ (a < 32 ∧ ¬ (nI 32 ≤ a ∧ a ≤ nI 126)) ∨ (¬ a < 32 ∧ ¬ a ≤ 126 ∧ ¬ (nI 32 ≤ a ∧ a ≤ nI 126)) := by
  by_cases c : a < 32
  · exact Or.inr (Or.inl ⟨c, fun h => (fa_of_lt c).2.1 h.1⟩)
  · by_cases d : a ≤ 126
    · exact Or.inl ⟨c, d, fa_of_nlt c, d⟩
    · exact Or.inr (Or.inr ⟨c, d, fun h => d h.2⟩)
theorem do_type {pt inp : Nat → Int32} {pl many : Int32} (X : zTx pt pl inp many) (th a : Int32) (out : Nat → Int64) :
    ∃ v c pt' pl' out' inp' many', f_L_type pt pl out a = some (c, pt', pl', out') ∧ f_X10_type th inp many a = some (v, c, inp', many') ∧ (c = 0 → out' 0 = v.toInt64) ∧ zTx pt' pl' inp' many' := by
  have X0 := X
  obtain ⟨l, l1, l2, l3, l4⟩ := X
  subst l2 l3
  unfold f_L_type f_X9_type f_X10_type
  rcases z_32 a with ⟨h1, h2, h3⟩ | ⟨h1, h3⟩ | ⟨h1, h2, h3⟩
  · rw [if_neg h1, if_pos h2, z_inT (y := 32) (z := 126) (nI 32) (nI 126) rfl rfl h3, z_bind, if_neg z_n10]
    have nar : vp_nar .char a = a := by
      rcases z_rng a (n := 126) (by omega) with ⟨k, hk, rfl, _⟩ | ⟨h, h'⟩
      · have : ∀ k, k < 127 → vp_nar .char (nI k) = nI k := by decide +kernel
        exact this k (by omega)
      · refine absurd ⟨?_, h3.2⟩ h'
        have e := h3.1
        rw [Int32.le_iff_toInt_le, nI_toInt (by omega)] at e ⊢
        omega
    by_cases full : l < 60
    · have n60 : ¬ nI l = (60 : Int32) := by rw [show (60 : Int32) = nI 60 from rfl, z_eq (by omega) (by omega)]; omega
      have f0 : f_X6_isFull (nI l) = some 0 := by
        unfold f_X6_isFull
        rw [if_pos (show nI l < (60 : Int32) from nI_lt (b := 60) full (by omega))]
      have app : f_X6_append pt (nI l) a = some (nI (l + 1), upd pt l a, nI (l + 1)) := by
        unfold f_X6_append
        rw [f0, z_bind, if_pos rfl, if_pos (show jin (nI l) 60 = true by rw [z_jin (by omega)]; simp; omega), z_cl (by omega), nI_1, nar]
      rw [f0, z_bind, if_pos rfl, app, z_bind, z_inr, if_pos (show jin 0 1 = true by decide), if_neg n60, if_pos (show jin (nI l) 60 = true by rw [z_jin (by omega)]; simp; omega), z_cl (by omega), nI_1]
      refine ⟨nI (l + 1), 0, upd pt l a, nI (l + 1), _, upd inp l a, nI (l + 1), rfl, rfl, fun _ => rfl, l + 1, by omega, rfl, rfl, fun k hk => ?_⟩
      by_cases c : k = l
      · rw [c, z_upds, z_upds]
      · rw [z_updn _ c, z_updn _ c]; exact l4 k (by omega)
    · have e : l = 60 := by omega
      subst e
      have f0 : f_X6_isFull (nI 60) = some 1 := by decide
      rw [f0, z_bind, if_neg z_n10, z_inl, if_pos (show nI 60 = (60 : Int32) from rfl)]
      dsimp only
      rw [if_neg (by decide), if_pos rfl]
      exact ⟨-1, 2, _, _, _, _, _, rfl, rfl, fun h => absurd h (by decide), X0⟩
  · rw [if_pos h1, z_inl, z_inF (y := 32) (z := 126) (nI 32) (nI 126) rfl rfl h3, z_bind, if_pos rfl]
    dsimp only
    rw [if_pos rfl]
    exact ⟨_, _, _, _, _, _, _, rfl, rfl, fun h => absurd h (by decide), X0⟩
  · rw [if_neg h1, if_neg h2, z_inl, z_inF (y := 32) (z := 126) (nI 32) (nI 126) rfl rfl h3, z_bind, if_pos rfl]
    dsimp only
    rw [if_pos rfl]
    exact ⟨_, _, _, _, _, _, _, rfl, rfl, fun h => absurd h (by decide), X0⟩
theorem get_errorPosition (d th : Int32) (out : Nat → Int64) : zSame (f_L_errorPosition d out) (f_X10_errorPosition d th) := by
  unfold f_L_errorPosition f_X9_errorPosition f_X10_errorPosition
  by_cases c : d = -1
  · rw [if_pos c, if_pos c, z_inl, if_pos rfl]
    exact zSame_err (-1) z_n10
  · rw [if_neg c, if_neg c, z_inr, if_pos (show jin 0 1 = true by decide)]
    exact zSame_val out _
theorem get_failedCommand (d th : Int32) (out : Nat → Int64) : zSame (f_L_failedCommand d out) (f_X10_failedCommand d th) := by
  unfold f_L_failedCommand f_X9_failedCommand f_X10_failedCommand
  by_cases c : d = -1
  · rw [if_pos c, if_pos c, z_inl, if_pos rfl]
    exact zSame_err (-1) z_n10
  · rw [if_neg c, if_neg c, z_inr, if_pos (show jin 0 1 = true by decide)]
    exact zSame_val out _

/-! PURE: the model writes a number -/
theorem z_divI {a b : Nat} (ha : a < 2147483648) (h0 : 0 < b) (hb : b < 2147483648) : nI a / nI b = nI (a / b) := pk_div ha h0 hb
theorem z_ne0 {a : Nat} (h : 0 < a) (ha : a < 2147483648) : ¬ nI a = (0 : Int32) := by rw [show (0 : Int32) = nI 0 from rfl, z_eq ha (by omega)]; omega
theorem p10_le {i : Nat} (h : i ≤ 6) : 10 ^ i ≤ 1000000 := by
  have : ∀ i, i < 7 → 10 ^ i ≤ 1000000 := by decide
  exact this i (by omega)
theorem p10_pos : ∀ i, 0 < 10 ^ i
  | 0 => by decide
  | i + 1 => by
    have := p10_pos i
    rw [Nat.pow_succ]
    omega
theorem x10_power {v : Nat} (hv : v < 1000000) : ∃ e, e ≤ 5 ∧ v / 10 ^ e ≤ 9 ∧ (∀ i, i < e → 9 < v / 10 ^ i) ∧ f_X10_writesNumber_L2 (nI v) jFU 1 = some (nI (10 ^ e)) := by
  have key : ∀ d i fu, i + d = 5 → d < fu → (∀ j, j < i → 9 < v / 10 ^ j) → ∃ e, e ≤ 5 ∧ v / 10 ^ e ≤ 9 ∧ (∀ j, j < e → 9 < v / 10 ^ j) ∧ f_X10_writesNumber_L2 (nI v) fu (nI (10 ^ i)) = some (nI (10 ^ e)) := by
    intro d
    induction d with
    | zero =>
      intro i fu hi hf hj
      obtain ⟨fu, rfl⟩ : ∃ g, fu = g + 1 := ⟨fu - 1, by omega⟩
      obtain rfl : i = 5 := by omega
      have q : v / 10 ^ 5 ≤ 9 := by
        have : v / 100000 ≤ 9 := by omega
        exact this
      refine ⟨5, by omega, q, hj, ?_⟩
      have p1 := p10_le (i := 5) (by omega)
      rw [f_X10_writesNumber_L2, if_pos (z_ne0 (a := 10 ^ 5) (p10_pos 5) (by omega)), z_divI (a := v) (b := 10 ^ 5) (by omega) (p10_pos 5) (by omega), if_pos (show nI (v / 10 ^ 5) ≤ (9 : Int32) from nI_le (b := 9) q (by omega))]
    | succ d ih =>
      intro i fu hi hf hj
      obtain ⟨fu, rfl⟩ : ∃ g, fu = g + 1 := ⟨fu - 1, by omega⟩
      have p1 := p10_le (i := i) (by omega)
      have p0 : 0 < 10 ^ i := p10_pos i
      have vd : v / 10 ^ i ≤ v := Nat.div_le_self _ _
      rw [f_X10_writesNumber_L2, if_pos (z_ne0 p0 (by omega)), z_divI (by omega) p0 (by omega)]
      by_cases q : v / 10 ^ i ≤ 9
      · rw [if_pos (show nI (v / 10 ^ i) ≤ (9 : Int32) from nI_le (b := 9) q (by omega))]
        exact ⟨i, by omega, q, hj, rfl⟩
      · rw [if_neg (show ¬ nI (v / 10 ^ i) ≤ (9 : Int32) from nI_ge (a := 9) (by omega) (by omega)), z_mull, ← Nat.pow_succ]
        exact ih (i + 1) fu (by omega) (by omega) (fun j hj' => by
          by_cases c : j = i
          · rw [c]; omega
          · exact hj j (by omega))
  exact key 5 0 jFU rfl (pz_jFU (by omega)) (fun j hj => by omega)
theorem x10_signs {many : Nat} (line : Nat → Int32) (ch : Int32) (h : many < 40) : f_X10_sign line (nI many) ch = some (upd line many ch, nI (many + 1)) := by
  unfold f_X10_sign
  rw [if_pos (by rw [z_jin (by omega)]; simp; omega), z_cl (by omega), nI_1]
/-- the signs of v, from the place many on: e + 1 digits -/
theorem x10_digits {v : Nat} (hv : v < 1000000) : ∀ (e many fu : Nat) (line : Nat → Int32), e ≤ 5 → many + e < 40 → e + 1 < fu → ∃ x line', f_X10_writesNumber_L18 (nI v) fu (nI (10 ^ e)) line (nI many) = some (x, line', nI (many + e + 1)) ∧ (∀ j, j ≤ e → line' (many + j) = nI (48 + v / 10 ^ (e - j) % 10)) ∧ ∀ k, k < many → line' k = line k := by
  intro e
  induction e with
  | zero =>
    intro many fu line he hm hf
    obtain ⟨fu, rfl⟩ : ∃ g, fu = g + 2 := ⟨fu - 2, by omega⟩
    rw [f_X10_writesNumber_L18, if_neg (show ¬ nI (10 ^ 0) ≤ (0 : Int32) by decide), if_pos (show ¬ nI (10 ^ 0) = (0 : Int32) by decide), z_divI (b := 10 ^ 0) (by omega) (by decide) (by decide), z_divl (n := 10) (by have := Nat.div_le_self v (10 ^ 0); omega) (by decide) (by decide), z_mull, show nI (v / 10 ^ 0) - nI (v / 10 ^ 0 / 10 * 10) = nI (v / 10 ^ 0 - v / 10 ^ 0 / 10 * 10) from pk_sub (Nat.div_mul_le_self _ _), z_ladd, x10_signs line _ (by omega), z_bind]
    dsimp only
    rw [f_X10_writesNumber_L18, if_pos (show nI (10 ^ 0) / 10 ≤ (0 : Int32) by decide)]
    refine ⟨_, _, rfl, fun j hj => ?_, fun k hk => z_updn _ (by omega)⟩
    obtain rfl : j = 0 := by omega
    show upd line many _ many = _
    rw [z_upds, show 0 - 0 = 0 from rfl, show v / 10 ^ 0 - v / 10 ^ 0 / 10 * 10 = v / 10 ^ 0 % 10 by omega]
  | succ e ih =>
    intro many fu line he hm hf
    obtain ⟨fu, rfl⟩ : ∃ g, fu = g + 1 := ⟨fu - 1, by omega⟩
    have p0 := p10_pos (e + 1)
    have p1 := p10_le (i := e + 1) (by omega)
    have vd : v / 10 ^ (e + 1) ≤ v := Nat.div_le_self _ _
    rw [f_X10_writesNumber_L18, if_neg (show ¬ nI (10 ^ (e + 1)) ≤ (0 : Int32) from nI_ge (a := 0) (by omega) (by omega)), if_pos (z_ne0 p0 (by omega)), z_divI (by omega) p0 (by omega), z_divl (n := 10) (by omega) (by decide) (by decide), z_mull, show nI (v / 10 ^ (e + 1)) - nI (v / 10 ^ (e + 1) / 10 * 10) = nI (v / 10 ^ (e + 1) - v / 10 ^ (e + 1) / 10 * 10) from pk_sub (Nat.div_mul_le_self _ _), z_ladd, x10_signs line _ (by omega), z_bind]
    dsimp only
    have pe : 10 ^ (e + 1) / 10 = 10 ^ e := by rw [Nat.pow_succ]; exact Nat.mul_div_cancel _ (by omega)
    rw [z_divl (n := 10) (by omega) (by decide) (by decide), show nI (10 ^ (e + 1) / (no_index (OfNat.ofNat 10))) = nI (10 ^ e) by rw [show (OfNat.ofNat 10 : Nat) = 10 from rfl, pe]]
    obtain ⟨x, line', f1, f2, f3⟩ := ih (many + 1) fu (upd line many (nI (48 + (v / 10 ^ (e + 1) - v / 10 ^ (e + 1) / 10 * 10)))) (by omega) (by omega) (by omega)
    refine ⟨x, line', ?_, fun j hj => ?_, fun k hk => ?_⟩
    · rw [show many + (e + 1) + 1 = many + 1 + e + 1 by omega]; exact f1
    · by_cases c : j = 0
      · subst c
        show line' many = _
        rw [f3 many (by omega), z_upds, show e + 1 - 0 = e + 1 from rfl, show v / 10 ^ (e + 1) - v / 10 ^ (e + 1) / 10 * 10 = v / 10 ^ (e + 1) % 10 by omega]
      · have := f2 (j - 1) (by omega)
        rw [show many + 1 + (j - 1) = many + j by omega, show e - (j - 1) = e + 1 - j by omega] at this
        exact this
    · rw [f3 k (by omega), z_updn _ (by omega)]

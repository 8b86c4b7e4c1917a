/-! PURE: the model writes a number, whole -/
/-- v has e + 1 digits -/
def zDl (v e : Nat) : Prop := e ≤ 5 ∧ v / 10 ^ e ≤ 9 ∧ ∀ i, i < e → 9 < v / 10 ^ i
theorem zDl_one {v e e' : Nat} (h : zDl v e) (g : zDl v e') : e = e' := by
  obtain ⟨_, h2, h3⟩ := h
  obtain ⟨_, g2, g3⟩ := g
  rcases Nat.lt_trichotomy e e' with c | c | c
  · have := g3 e c; omega
  · exact c
  · have := h3 e' c; omega
theorem x10_number {v many : Nat} (line : Nat → Int32) (hv : v < 1000000) (hm : many + 6 ≤ 40) : ∃ e line', zDl v e ∧ f_X10_writesNumber line (nI many) (nI v) = some (line', nI (many + e + 1)) ∧ (∀ j, j ≤ e → line' (many + j) = nI (48 + v / 10 ^ (e - j) % 10)) ∧ ∀ k, k < many → line' k = line k := by
  obtain ⟨e, e5, e9, el, ep⟩ := x10_power hv
  obtain ⟨x, line', f1, f2, f3⟩ := x10_digits hv e many jFU line e5 (by omega) (pz_jFU (by omega))
  refine ⟨e, line', ⟨e5, e9, el⟩, ?_, f2, f3⟩
  unfold f_X10_writesNumber
  rw [ep, z_bind, f1, z_bind]
theorem x10_writes {v many : Nat} (line : Nat → Int32) (ch : Int32) (hv : v < 1000000) (hm : many + 7 ≤ 40) : ∃ e line', zDl v e ∧ f_X10_writes line (nI many) ch (nI v) = some (line', nI (many + 1 + e + 1)) ∧ line' many = ch ∧ (∀ j, j ≤ e → line' (many + 1 + j) = nI (48 + v / 10 ^ (e - j) % 10)) ∧ ∀ k, k < many → line' k = line k := by
  obtain ⟨e, line', d, f1, f2, f3⟩ := x10_number (v := v) (many := many + 1) (upd line many ch) hv (by omega)
  refine ⟨e, line', d, ?_, ?_, f2, fun k hk => ?_⟩
  · unfold f_X10_writes
    rw [x10_signs line ch (by omega), z_bind]
    dsimp only
    rw [f1, z_bind]
  · rw [f3 many (by omega), z_upds]
  · rw [f3 k (by omega), z_updn _ (by omega)]

/-! THE MODEL'S ARGUMENTS -/
theorem zWy_all : zWy 0 = [78, 32, 68] ∧ zWy 1 = [78, 32, 68] ∧ zWy 2 = [68, 68, 68] ∧ zWy 3 = [68, 32, 78, 126, 78, 32, 78, 45, 78] ∧ zWy 4 = [78] ∧ zWy 5 = [78] ∧ zWy 6 = [] ∧ zWy 7 = [78, 32, 78, 32, 68] ∧ zWy 8 = [78] ∧ zWy 9 = [] := by decide +kernel
section ZMA
variable {l : Nat} {f : Nat → Int32}
theorem jin_a {a : Nat} (h : a < 366) : jin (nI a) 366 = true := by rw [z_jin (by omega)]; exact decide_eq_true h
theorem m_args {k p a : Nat} (cm : Nat → Int32) (hk : k < 9) (hl : l ≤ 60) (hp : p ≤ l) (ha : a + 5 < 366) : f_X10_readArguments f cm (nI p) (nI l) 0 (nI k) (nI a) = some (zPut cm a (zMr f l (zWy k) (p, false)).2, nI (zMr f l (zWy k) (p, false)).1.1, zw (zMr f l (zWy k) (p, false)).1.2) := by
  obtain ⟨y0, y1, y2, y3, y4, y5, y6, y7, y8, y9⟩ := zWy_all
  have j0 := jin_a (a := a) (by omega)
  have j1 := jin_a (a := a + 1) (by omega)
  have j2 := jin_a (a := a + 2) (by omega)
  have j3 := jin_a (a := a + 3) (by omega)
  have j4 := jin_a (a := a + 4) (by omega)
  have c0 : (nI a).toNatClampNeg = a := nI_clamp (by omega)
  have c1 : (nI (a + 1)).toNatClampNeg = a + 1 := nI_clamp (by omega)
  have c2 : (nI (a + 2)).toNatClampNeg = a + 2 := nI_clamp (by omega)
  have c3 : (nI (a + 3)).toNatClampNeg = a + 3 := nI_clamp (by omega)
  have c4 : (nI (a + 4)).toNatClampNeg = a + 4 := nI_clamp (by omega)
  have n1 : nI a + 1 = nI (a + 1) := nI_1 _
  have n2 : nI a + 2 = nI (a + 2) := nI_add _ 2
  have n3 : nI a + 3 = nI (a + 3) := nI_add _ 3
  have n4 : nI a + 4 = nI (a + 4) := nI_add _ 4
  have hN : f_X10_number f (nI p) (nI l) 0 = _ := m_number (s := (p, false)) hl hp
  have hD : f_X10_digit f (nI p) (nI l) 0 = _ := m_digit (s := (p, false)) hl hp
  have q1 := zS3_le (f := f) (a := 3) (s := (p, false)) hp
  have q2 := zS3_le (f := f) (a := 1) (s := (p, false)) hp
  have one : ∀ v : Int32, zPut cm a [v] = upd cm a v := fun v => rfl
  have r01 : ∀ k', (k' = 0 ∨ k' = 1) → zMr f l [78, 32, 68] (p, false) = ((zS3 f l 1 (zSx f l 32 (zS3 f l 3 (p, false)).2)).2, [(zS3 f l 3 (p, false)).1, (zS3 f l 1 (zSx f l 32 (zS3 f l 3 (p, false)).2)).1]) := fun _ _ => rfl
  unfold f_X10_readArguments
  rcases (show k = 0 ∨ k = 1 ∨ k = 2 ∨ k = 3 ∨ k = 4 ∨ k = 5 ∨ k = 6 ∨ k = 7 ∨ k = 8 by omega) with rfl | rfl | rfl | rfl | rfl | rfl | rfl | rfl | rfl
  · rw [if_pos (show nI 0 = 0 from rfl), hN, z_bind]
    dsimp only
    rw [if_pos j0, m_digitB (by decide) hl q1, z_bind, n1, if_pos j1, c0, c1, y0]
    rfl
  · rw [if_neg (show ¬ nI 1 = 0 by decide), if_pos (show nI 1 = 1 from rfl), hN, z_bind]
    dsimp only
    rw [if_pos j0, m_digitB (by decide) hl q1, z_bind, n1, if_pos j1, c0, c1, y1]
    rfl
  · rw [if_neg (show ¬ nI 2 = 0 by decide), if_neg (show ¬ nI 2 = 1 by decide), if_pos (show nI 2 = 2 from rfl), hD, z_bind]
    dsimp only
    rw [if_pos j0, m_digit hl q2, z_bind, n1, if_pos j1]
    dsimp only
    rw [m_digit hl (zS3_le q2), z_bind, n2, if_pos j2, c0, c1, c2, y2]
    rfl
  · rw [if_neg (show ¬ nI 3 = 0 by decide), if_neg (show ¬ nI 3 = 1 by decide), if_neg (show ¬ nI 3 = 2 by decide), if_pos (show nI 3 = 3 from rfl)]
    unfold f_X10_readAsk
    rw [hD, z_bind, if_pos j0]
    dsimp only
    rw [m_numberB (by decide) hl q2, z_bind, n1, if_pos j1]
    dsimp only
    rw [m_numberB (by decide) hl (zS3_le (zSx_le q2)), z_bind, n2, if_pos j2]
    dsimp only
    rw [m_numberB (by decide) hl (zS3_le (zSx_le (zS3_le (zSx_le q2)))), z_bind, n3, if_pos j3]
    dsimp only
    rw [m_numberB (by decide) hl (zS3_le (zSx_le (zS3_le (zSx_le (zS3_le (zSx_le q2)))))), z_bind, n4, if_pos j4, z_bind, c0, c1, c2, c3, c4, y3]
    rfl
  · rw [if_neg (show ¬ nI 4 = 0 by decide), if_neg (show ¬ nI 4 = 1 by decide), if_neg (show ¬ nI 4 = 2 by decide), if_neg (show ¬ nI 4 = 3 by decide), if_pos (show nI 4 = 4 from rfl), hN, z_bind, if_pos j0, c0, y4]
    rfl
  · rw [if_neg (show ¬ nI 5 = 0 by decide), if_neg (show ¬ nI 5 = 1 by decide), if_neg (show ¬ nI 5 = 2 by decide), if_neg (show ¬ nI 5 = 3 by decide), if_neg (show ¬ nI 5 = 4 by decide), if_pos (show nI 5 = 5 from rfl), hN, z_bind, if_pos j0, c0, y5]
    rfl
  · rw [if_neg (show ¬ nI 6 = 0 by decide), if_neg (show ¬ nI 6 = 1 by decide), if_neg (show ¬ nI 6 = 2 by decide), if_neg (show ¬ nI 6 = 3 by decide), if_neg (show ¬ nI 6 = 4 by decide), if_neg (show ¬ nI 6 = 5 by decide), if_pos (show nI 6 = 6 from rfl), y6]
    rfl
  · rw [if_neg (show ¬ nI 7 = 0 by decide), if_neg (show ¬ nI 7 = 1 by decide), if_neg (show ¬ nI 7 = 2 by decide), if_neg (show ¬ nI 7 = 3 by decide), if_neg (show ¬ nI 7 = 4 by decide), if_neg (show ¬ nI 7 = 5 by decide), if_neg (show ¬ nI 7 = 6 by decide), if_pos (show nI 7 = 7 from rfl), hN, z_bind]
    dsimp only
    rw [if_pos j0, m_numberB (by decide) hl q1, z_bind, n1, if_pos j1]
    dsimp only
    rw [m_digitB (by decide) hl (zS3_le (zSx_le q1)), z_bind, n2, if_pos j2, c0, c1, c2, y7]
    rfl
  · rw [if_neg (show ¬ nI 8 = 0 by decide), if_neg (show ¬ nI 8 = 1 by decide), if_neg (show ¬ nI 8 = 2 by decide), if_neg (show ¬ nI 8 = 3 by decide), if_neg (show ¬ nI 8 = 4 by decide), if_neg (show ¬ nI 8 = 5 by decide), if_neg (show ¬ nI 8 = 6 by decide), if_neg (show ¬ nI 8 = 7 by decide), if_pos (show nI 8 = 8 from rfl), hN, z_bind, if_pos j0, c0, y8]
    rfl
end ZMA
/-! THE MODEL READS A COMMAND -/
section ZMC
variable {l : Nat} {f : Nat → Int32}
theorem m_args9 {p a : Nat} (cm : Nat → Int32) (hl : l ≤ 60) (hp : p ≤ l) (ha : a + 5 < 366) : ∃ cm', f_X10_readArguments f cm (nI p) (nI l) 0 (nI 9) (nI a) = some (cm', nI (zOd f l p).2.1, zw (!(zOd f l p).1)) ∧ (∀ x, ¬ (a ≤ x ∧ x < a + 5) → cm' x = cm x) ∧ ((zOd f l p).1 = true → ∀ x, x < (zOd f l p).2.2.length → cm' (a + x) = (zOd f l p).2.2.getD x 0) := by
  have j0 := jin_a (a := a) (by omega)
  have c0 : (nI a).toNatClampNeg = a := nI_clamp (by omega)
  unfold f_X10_readArguments
  rw [if_neg (show ¬ nI 9 = 0 by decide), if_neg (show ¬ nI 9 = 1 by decide), if_neg (show ¬ nI 9 = 2 by decide), if_neg (show ¬ nI 9 = 3 by decide), if_neg (show ¬ nI 9 = 4 by decide), if_neg (show ¬ nI 9 = 5 by decide), if_neg (show ¬ nI 9 = 6 by decide), if_neg (show ¬ nI 9 = 7 by decide), if_neg (show ¬ nI 9 = 8 by decide), if_pos (show nI 9 = 9 from rfl), x10_here hl hp, z_bind]
  unfold zOd
  by_cases c : p < l ∧ f p = 32
  · rw [if_pos c, if_pos (show (if p < l then f p else -1) = 32 by rw [if_pos c.1]; exact c.2)]
    have e : f_X10_numberBehind f (nI p) (nI l) 0 32 = _ := m_numberB (s := (p, false)) (a := 32) (by decide) hl hp
    have e2 : zSx f l 32 (p, false) = (p + 1, false) := by unfold zSx; rw [if_neg (show ¬ false = true by decide), if_pos c]
    rw [e, z_bind, e2, if_pos j0, c0]
    dsimp only
    unfold zS3
    rw [if_neg (show ¬ false = true by decide)]
    dsimp only
    by_cases cn : (zRn f l 3 (p + 1) 0).1 = p + 1
    · rw [if_pos cn, if_pos cn]
      refine ⟨_, rfl, fun x hx => ?_, fun h => by cases h⟩
      unfold upd; rw [if_neg (by omega)]
    · rw [if_neg cn, if_neg cn]
      refine ⟨_, rfl, fun x hx => ?_, fun _ x hx => ?_⟩
      · unfold upd; rw [if_neg (by omega)]
      · have hx1 : x < 1 := hx
        obtain rfl : x = 0 := by omega
        unfold upd; rw [if_pos (Nat.add_zero a)]; rfl
  · rw [if_neg c, if_neg (show ¬ (if p < l then f p else -1) = 32 by
      by_cases h : p < l
      · rw [if_pos h]; exact fun q => c ⟨h, q⟩
      · rw [if_neg h]; decide), if_pos j0, c0]
    refine ⟨_, rfl, fun x hx => ?_, fun _ x hx => ?_⟩
    · unfold upd; rw [if_neg (by omega)]
    · have hx1 : x < 1 := hx
      obtain rfl : x = 0 := by omega
      unfold upd; rw [if_pos (Nat.add_zero a)]; rfl
theorem m_likeL {k p : Nat} (hk : k < 10) (hl : l ≤ 60) (hp : p ≤ l) : ∀ (d i fu : Nat), i + d = zWl k → d < fu → f_X10_likeness_L18 f mL49 mB11 (nI p) (nI l) (nI (zWl k)) (nI k) fu (nI i) = some (nI (i + zPx f l ((List.range' (zWb k + i) d).map mL49) (p + i))) := by
  obtain ⟨-, -, w49, wb, -, -, -, w7⟩ := zW_facts k hk
  intro d
  induction d with
  | zero =>
    intro i fu hi hf
    obtain ⟨fu, rfl⟩ : ∃ g, fu = g + 1 := ⟨fu - 1, by omega⟩
    rw [f_X10_likeness_L18, if_pos (nI_le (by omega) (by omega))]
    rfl
  | succ d ih =>
    intro i fu hi hf
    obtain ⟨fu, rfl⟩ : ∃ g, fu = g + 1 := ⟨fu - 1, by omega⟩
    have e : (List.range' (zWb k + i) (d + 1)).map mL49 = mL49 (zWb k + i) :: (List.range' (zWb k + (i + 1)) d).map mL49 := rfl
    rw [f_X10_likeness_L18, if_neg (nI_ge (by omega) (by omega)), e]
    unfold zPx
    by_cases c : p + i < l
    · rw [nI_add, if_neg (nI_ge c (by omega)), if_pos (show jin (nI (p + i)) 60 = true by rw [z_jin (by omega)]; exact decide_eq_true (by omega)), if_pos (show jin (nI k) 11 = true by rw [z_jin (by omega)]; exact decide_eq_true (by omega)), nI_clamp (n := k) (by omega), wb, nI_add, if_pos (show jin (nI (zWb k + i)) 49 = true by rw [z_jin (by omega)]; exact decide_eq_true (by omega)), nI_clamp (n := p + i) (by omega), nI_clamp (n := zWb k + i) (by omega)]
      by_cases c2 : f (p + i) = mL49 (zWb k + i)
      · rw [if_pos c2, if_pos ⟨c, c2⟩, nI_1, ih (i + 1) fu (by omega) (by omega), show p + i + 1 = p + (i + 1) by omega, show i + 1 + zPx f l ((List.range' (zWb k + (i + 1)) d).map mL49) (p + (i + 1)) = i + (1 + zPx f l ((List.range' (zWb k + (i + 1)) d).map mL49) (p + (i + 1))) by omega]
      · rw [if_neg c2, if_neg (fun q : p + i < l ∧ f (p + i) = mL49 (zWb k + i) => c2 q.2), Nat.add_zero]
    · rw [nI_add, if_pos (show nI l ≤ nI (p + i) from nI_le (by omega) (by omega)), if_neg (fun q : p + i < l ∧ f (p + i) = mL49 (zWb k + i) => c q.1), Nat.add_zero]
theorem m_like {k p : Nat} (hk : k < 10) (hl : l ≤ 60) (hp : p ≤ l) : f_X10_likeness f mL49 mB11 (nI p) (nI l) (nI k) = some (nI (zPx f l (zWd k) p)) := by
  obtain ⟨-, -, w49, wb, wl, -, -, w7⟩ := zW_facts k hk
  unfold f_X10_likeness
  rw [nI_1, if_pos (show jin (nI (k + 1)) 11 = true by rw [z_jin (by omega)]; exact decide_eq_true (by omega)), if_pos (show jin (nI k) 11 = true by rw [z_jin (by omega)]; exact decide_eq_true (by omega)), nI_clamp (n := k + 1) (by omega), nI_clamp (n := k) (by omega), wl]
  have e := m_likeL (f := f) (p := p) hk hl hp (zWl k) 0 jFU (by omega) (pz_jFU (by omega))
  rw [show f_X10_likeness_L18 f mL49 mB11 (nI p) (nI l) (nI (zWl k)) (nI k) jFU 0 = _ from e, z_bind, Nat.zero_add]
  rfl
theorem m_bestL {p : Nat} (hl : l ≤ 60) (hp : p ≤ l) : ∀ (d j b fu : Nat), j + d = 10 → d < fu → b < j → (∀ k, k < j → zPx f l (zWd k) p ≤ zPx f l (zWd b) p) → ∃ b', b' < 10 ∧ f_X10_readCommand_L12 f mL49 mB11 (nI p) (nI l) fu (nI j) (nI b) = some (nI 10, nI b') ∧ ∀ k, k < 10 → zPx f l (zWd k) p ≤ zPx f l (zWd b') p := by
  intro d
  induction d with
  | zero =>
    intro j b fu hj hf hb h
    obtain ⟨fu, rfl⟩ : ∃ g, fu = g + 1 := ⟨fu - 1, by omega⟩
    obtain rfl : j = 10 := by omega
    refine ⟨b, hb, ?_, h⟩
    rw [f_X10_readCommand_L12, if_pos (show (10 : Int32) ≤ nI 10 by decide)]
  | succ d ih =>
    intro j b fu hj hf hb h
    obtain ⟨fu, rfl⟩ : ∃ g, fu = g + 1 := ⟨fu - 1, by omega⟩
    have wj := (zPx_le (f := f) (l := l) (zWd j) p).2.1 hp
    have wb := (zPx_le (f := f) (l := l) (zWd b) p).2.1 hp
    rw [f_X10_readCommand_L12, if_neg (show ¬ (10 : Int32) ≤ nI j from nI_ge (b := 10) (by omega) (by decide)), m_like (by omega) hl hp, z_bind, m_like (by omega) hl hp, z_bind, nI_1]
    by_cases c : zPx f l (zWd j) p ≤ zPx f l (zWd b) p
    · rw [if_pos (nI_le c (by omega))]
      refine ih (j + 1) b fu (by omega) (by omega) (by omega) (fun k hk => ?_)
      by_cases e : k = j
      · subst e; exact c
      · exact h k (by omega)
    · rw [if_neg (nI_ge (by omega) (by omega))]
      refine ih (j + 1) j fu (by omega) (by omega) (by omega) (fun k hk => ?_)
      by_cases e : k = j
      · subst e; exact Nat.le_refl _
      · have := h k (by omega); omega
theorem zMr_len : ∀ (r : List Int32) (s : Nat × Bool), (zMr f l r s).2.length = zNs r := by
  intro r
  induction r with
  | nil => intro s; rfl
  | cons ch r ih =>
    intro s
    unfold zMr zNs
    by_cases c1 : ch = 78
    · rw [if_pos c1, if_pos (Or.inl c1)]
      show (zMr f l r (zS3 f l 3 s).2).2.length + 1 = _
      rw [ih]; omega
    · rw [if_neg c1]
      by_cases c2 : ch = 68
      · rw [if_pos c2, if_pos (Or.inr c2)]
        show (zMr f l r (zS3 f l 1 s).2).2.length + 1 = _
        rw [ih]; omega
      · rw [if_neg c2, if_neg (fun q => q.elim c1 c2), ih]; omega
theorem zWy_ns : ∀ b, b < 10 → zNs (zWy b) ≤ 5 := by decide +kernel
/-- after the word b stands there: the form b is there or not, the others are not -/
theorem zRd_none {k p : Nat} (hk : k < 10) (h : zPx f l (zWd k) p ≠ zWl k) : ¬ (zRd f l k p).1 = true ∧ (zRd f l k p).2.1 = p + zPx f l (zWd k) p := by
  have e := (zRd_word (f := f) (l := l) hk p).2 h
  rw [e]
  exact ⟨(show ¬ false = true from by decide), rfl⟩
theorem m_readCommand {c p : Nat} (cm : Nat → Int32) (hl : l ≤ 60) (hp : p ≤ l) (hc : c ≤ 15) : ∃ cm' n', f_X10_readCommand f mL49 mB11 cm (nI c) (nI p) (nI l) 0 = (match zFst f l p 0 10 with
      | some k => some (cm', nI (c + 1), nI (zRd f l k p).2.1, 0)
      | none => some (cm', n', nI (zMx f l p 0 10 p), 1)) ∧ (∀ x, x < 6 * c → cm' x = cm x) ∧ (∀ k, zFst f l p 0 10 = some k → cm' (6 * c) = nI k ∧ ∀ x, x < (zRd f l k p).2.2.length → cm' (6 * c + 1 + x) = (zRd f l k p).2.2.getD x 0) := by
  obtain ⟨b, hb, e1, mx⟩ := m_bestL (f := f) hl hp 9 1 0 jFU rfl (pz_jFU (by omega)) (by omega) (fun k hk => by have e : k = 0 := (by omega); subst e; exact Nat.le_refl _)
  obtain ⟨-, -, w49, wb, wl, w3, wlen, w7⟩ := zW_facts b hb
  have pb := (zPx_le (f := f) (l := l) (zWd b) p)
  have pbl := pb.2.1 hp
  rw [wlen] at pb
  have s6 : (6 : Int32) * nI c = nI (6 * c) := z_lmul c 6
  have j6 : jin (nI (6 * c)) 366 = true := jin_a (by omega)
  unfold f_X10_readCommand
  rw [show f_X10_readCommand_L12 f mL49 mB11 (nI p) (nI l) jFU 1 0 = _ from e1, z_bind]
  dsimp only
  rw [m_like hb hl hp, z_bind, nI_1, if_pos (show jin (nI (b + 1)) 11 = true by rw [z_jin (by omega)]; exact decide_eq_true (by omega)), if_pos (show jin (nI b) 11 = true by rw [z_jin (by omega)]; exact decide_eq_true (by omega)), nI_clamp (n := b + 1) (by omega), nI_clamp (n := b) (by omega), wl]
  by_cases cw : zPx f l (zWd b) p = zWl b
  · rw [cw, if_pos (nI_le (Nat.le_refl _) (by omega)), s6, if_pos j6, nI_clamp (n := 6 * c) (by omega), nI_add, nI_1, nI_1]
    have oth : ∀ k, k < 10 → k ≠ b → zPx f l (zWd k) p ≠ zWl k := fun k hk ne h => ne (zW_one hk hb h (Or.inr cw))
    have lb := zRd_le (pt := f) (l := l) (k := b) (p := p) hb hp
    have rd : ∃ cm', f_X10_readArguments f (upd cm (6 * c) (nI b)) (nI (p + zWl b)) (nI l) 0 (nI b) (nI (6 * c + 1)) = some (cm', nI (zRd f l b p).2.1, zw (!(zRd f l b p).1)) ∧ (∀ x, ¬ (6 * c + 1 ≤ x ∧ x < 6 * c + 1 + 5) → cm' x = upd cm (6 * c) (nI b) x) ∧ ((zRd f l b p).1 = true → ∀ x, x < (zRd f l b p).2.2.length → cm' (6 * c + 1 + x) = (zRd f l b p).2.2.getD x 0) ∧ p + zWl b ≤ (zRd f l b p).2.1 := by
      have ew := (zRd_word (f := f) (l := l) hb p).1 cw
      by_cases c9 : b = 9
      · have y9 : zWy b = [] := by rw [c9]; exact zWy_all.2.2.2.2.2.2.2.2.2
        rw [y9] at ew
        have er : zRd f l b p = zOd f l (p + zWl b) := by unfold zRd; rw [if_pos c9, ew]; rfl
        obtain ⟨cm', q1, q2, q3⟩ := m_args9 (f := f) (p := p + zWl b) (a := 6 * c + 1) (upd cm (6 * c) (nI b)) hl (by omega) (by omega)
        rw [er]
        refine ⟨cm', ?_, q2, q3, (zOd_le (pt := f) (l := l) (p := p + zWl b) (by omega)).1⟩
        rw [show nI b = nI 9 by rw [c9]] at q1 ⊢
        exact q1
      · have er : zRd f l b p = zFm f l (zWy b) (p + zWl b) := by unfold zRd; rw [if_neg c9, ew]
        have g := zMr_ok (f := f) (l := l) (zWy b) (p + zWl b)
        have gl := zFm_le (pt := f) (l := l) (zWy b) (p + zWl b) (by omega)
        have e := m_args (f := f) (k := b) (p := p + zWl b) (a := 6 * c + 1) (upd cm (6 * c) (nI b)) (by omega) hl (by omega) (by omega)
        rw [er] at lb ⊢
        refine ⟨zPut (upd cm (6 * c) (nI b)) (6 * c + 1) (zMr f l (zWy b) (p + zWl b, false)).2, ?_, ?_, ?_, gl.1⟩
        · rw [e, g.1]
        · intro x hx
          have ml : (zMr f l (zWy b) (p + zWl b, false)).2.length ≤ 5 := by rw [zMr_len]; exact zWy_ns b hb
          rw [zPut_at, if_neg (by omega)]
        · intro h x hx
          rw [g.2 h, zPut_at, if_pos (by omega), Nat.add_sub_cancel_left]
    obtain ⟨cm', q1, q2, q3, q4⟩ := rd
    rw [q1, z_bind]
    dsimp only
    by_cases ok : (zRd f l b p).1 = true
    · have e : zFst f l p 0 10 = some b := zFst_one ok 10 0 (Nat.zero_le _) (by omega) (fun k _ hk => (zRd_none (by omega) (oth k (by omega) (by omega))).1)
      rw [e, ok]
      refine ⟨cm', 0, rfl, fun x hx => ?_, fun k hk => ?_⟩
      · rw [q2 x (by omega)]; unfold upd; rw [if_neg (by omega)]
      · cases hk
        refine ⟨?_, q3 ok⟩
        rw [q2 _ (by omega)]; unfold upd; rw [if_pos rfl]
    · have e : zFst f l p 0 10 = none := zFst_none 10 0 (fun k _ hk => by
        by_cases kb : k = b
        · subst kb; exact ok
        · exact (zRd_none (by omega) (oth k (by omega) kb)).1)
      have em : zMx f l p 0 10 p = (zRd f l b p).2.1 := zMx_const 10 0 p lb.1 (fun k _ hk => by
        by_cases kb : k = b
        · subst kb; exact Nat.le_refl _
        · rw [(zRd_none (by omega) (oth k (by omega) kb)).2]
          have := mx k (by omega)
          omega) (Or.inr ⟨b, Nat.zero_le _, by omega, rfl⟩)
      have ok2 : (zRd f l b p).1 = false := by cases h : (zRd f l b p).1; rfl; exact absurd h ok
      rw [e, em, ok2]
      refine ⟨cm', nI (c + 1), rfl, fun x hx => ?_, fun k hk => by cases hk⟩
      rw [q2 x (by omega)]; unfold upd; rw [if_neg (by omega)]
  · rw [if_neg (nI_ge (by omega) (by omega)), nI_add]
    have oth : ∀ k, k < 10 → zPx f l (zWd k) p ≠ zWl k := fun k hk h => by
      have e : k = b := zW_one hk hb h (Or.inl (by have := mx k hk; omega))
      subst e; exact cw h
    have e : zFst f l p 0 10 = none := zFst_none 10 0 (fun k _ hk => (zRd_none (by omega) (oth k (by omega))).1)
    have em : zMx f l p 0 10 p = p + zPx f l (zWd b) p := zMx_const 10 0 p (by omega) (fun k _ hk => by
      rw [(zRd_none (by omega) (oth k (by omega))).2]
      have := mx k (by omega)
      omega) (Or.inr ⟨b, Nat.zero_le _, by omega, (zRd_none hb cw).2⟩)
    rw [e, em]
    exact ⟨cm, nI c, rfl, fun _ _ => rfl, fun k hk => by cases hk⟩
end ZMC

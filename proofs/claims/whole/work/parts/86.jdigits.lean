/-! PURE: the class writes a number (Integer.stringSize, Integer.getChars) -/
theorem z_negm (a n : Nat) : (no_index (OfNat.ofNat n) : Int32) * -nI a = -nI (no_index (OfNat.ofNat n) * a) := by
  rw [Int32.mul_neg, z_lmul]
theorem zDl_lt {v e : Nat} (h : zDl v e) : v < 10 ^ (e + 1) := by
  obtain ⟨h1, h2, -⟩ := h
  rw [Nat.pow_succ]
  have p := p10_pos e
  have := Nat.div_add_mod v (10 ^ e)
  have q := Nat.mod_lt v p
  have : 10 ^ e * (v / 10 ^ e) ≤ 10 ^ e * 9 := Nat.mul_le_mul_left _ h2
  omega
theorem zDl_ge {v e i : Nat} (h : zDl v e) (hi : i < e) : 10 ^ (i + 1) ≤ v := by
  have h3 := h.2.2 i hi
  have p := p10_pos i
  have := Nat.div_mul_le_self v (10 ^ i)
  rw [Nat.pow_succ]
  have : 10 * 10 ^ i ≤ v / 10 ^ i * 10 ^ i := Nat.mul_le_mul_right _ (by omega)
  omega
theorem j6_size {v e : Nat} (hv : v < 1000000) (h : zDl v e) : f_J6_stringSize_0f7a4 (nI v) = some (nI (e + 1)) := by
  have he := h.1
  have key : ∀ d i fu, i + d = e + 1 → 1 ≤ i → d < fu → f_J6_stringSize_0f7a4_L16 0 (-nI v) fu (nI i) (-nI (10 ^ i)) = some (.inl (nI (e + 1))) := by
    intro d
    induction d with
    | zero =>
      intro i fu hi h1 hf
      obtain ⟨fu, rfl⟩ : ∃ g, fu = g + 1 := ⟨fu - 1, by omega⟩
      obtain rfl : i = e + 1 := by omega
      have l := zDl_lt h
      have p1 := p10_le (i := e + 1) (by omega)
      rw [f_J6_stringSize_0f7a4_L16, if_neg (show ¬ (10 : Int32) ≤ nI (e + 1) by rw [z_lle (by omega) (by omega)]; omega), if_neg (show ¬ -nI v ≤ -nI (10 ^ (e + 1)) by rw [sb_nle (by omega) (by omega)]; omega), Int32.add_zero]
    | succ d ih =>
      intro i fu hi h1 hf
      obtain ⟨fu, rfl⟩ : ∃ g, fu = g + 1 := ⟨fu - 1, by omega⟩
      have g := zDl_ge (i := i - 1) h (by omega)
      rw [show i - 1 + 1 = i by omega] at g
      have p1 := p10_le (i := i) (by omega)
      rw [f_J6_stringSize_0f7a4_L16, if_neg (show ¬ (10 : Int32) ≤ nI i by rw [z_lle (by omega) (by omega)]; omega), if_pos (show -nI v ≤ -nI (10 ^ i) by rw [sb_nle (by omega) (by omega)]; omega), z_addl, z_negm, show 10 * 10 ^ i = 10 ^ (i + 1) by rw [Nat.pow_succ, Nat.mul_comm]]
      exact ih (i + 1) fu (by omega) (by omega) (by omega)
  unfold f_J6_stringSize_0f7a4
  rw [if_neg (nI_pos (by omega))]
  have k1 := key e 1 jFU (by omega) (by omega) (pz_jFU (by omega))
  rw [show (-10 : Int32) = -nI (10 ^ 1) from rfl, show (1 : Int32) = nI 1 from rfl, k1, z_bind]
  rfl
theorem z_upde {f : Nat → Int32} {k j : Nat} {x : Int32} (h : j = k) : upd f k x j = x := by rw [h, z_upds]
/-- all letters below 128 -/
def zA (f : Nat → Int32) : Prop := ∀ j, ∃ k, k < 128 ∧ f j = nI k
theorem zA_upd {f : Nat → Int32} {k c : Nat} (h : zA f) (hc : c < 128) : zA (upd f k (nI c)) := by
  intro j
  by_cases q : j = k
  · exact ⟨c, hc, by rw [q, z_upds]⟩
  · rw [z_updn _ q]; exact h j
theorem z_byte : ∀ c, c < 128 → vp_nar .byte (nI c) = nI c ∧ (nI c).toInt8.toInt32 = nI c ∧ vp_nar .byte (nI c).toInt8.toInt32 = nI c ∧ fits .byte (.int (nI c)) = true := by decide +kernel
theorem z_mm {p : Nat} (h : 0 < p) : nI p + (-1) = nI (p - 1) := sb_m1 h
theorem z_nn (a : Nat) : - -nI a = nI a := Int32.neg_neg
theorem j6_step {m w p fu : Nat} {f : Nat → Int32} (hw : w < 1000000) (h1 : 100 ≤ w) (hp : 2 ≤ p) (hm : p ≤ m) (hm2 : m < 1000) :
    f_J6_getChars_ba4f3_L22 m (fu + 1) (-nI w) (nI p) f = f_J6_getChars_ba4f3_L22 m fu (-nI (w / 100)) (nI (p - 2)) (upd (upd f (p - 1) (nI (48 + w % 100 % 10))) (p - 2) (nI (48 + w % 100 / 10))) := by
  have e1 : ((-nI w) / 100 * 100) - -nI w = nI (w % 100) := by rw [sb_ndiv (by omega), sb_nrem (by omega)]
  have e2 : nI p + (-1) = nI (p - 1) := z_mm (by omega)
  have e3 : nI (p - 1) + (-1) = nI (p - 2) := z_mm (by omega)
  have b1 := (z_byte (48 + w % 100 % 10) (by omega)).1
  have b2 := (z_byte (48 + w % 100 / 10) (by omega)).1
  have j1 : jin (nI (w % 100)) 100 = true := by rw [z_jin (by omega)]; simp; omega
  have j2 : jin (nI (p - 1)) m = true := by rw [z_jin (by omega)]; simp; omega
  have j3 : jin (nI (p - 2)) m = true := by rw [z_jin (by omega)]; simp; omega
  rw [f_J6_getChars_ba4f3_L22]
  simp only [e1, e2, e3]
  rw [if_neg (show ¬ (-100 : Int32) < -nI w by rw [show (-100 : Int32) = -nI 100 from rfl, sb_nlt (by omega) (by omega)]; omega)]
  simp only [j1, j2, j3, if_true, sb_ndiv (w := w) (by omega)]
  rw [z_cl (by omega), z_cl (by omega), z_cl (by omega)]
  unfold jOnesI jTensI
  rw [show Int32.ofNat (48 + w % 100 % 10) = nI (48 + w % 100 % 10) from rfl, show Int32.ofNat (48 + w % 100 / 10) = nI (48 + w % 100 / 10) from rfl, b1, b2]
theorem j6_stop {m w p fu : Nat} {f : Nat → Int32} (hw : w < 100) : f_J6_getChars_ba4f3_L22 m (fu + 1) (-nI w) (nI p) f = some (-nI w, nI p, f) := by
  rw [f_J6_getChars_ba4f3_L22, if_pos (show (-100 : Int32) < -nI w by rw [show (-100 : Int32) = -nI 100 from rfl, sb_nlt (by omega) (by omega)]; exact hw)]
/-- the last one or two digits -/
def j6_f (m : Nat) (s2 : Int32 × Int32 × (Nat → Int32)) : Option (Int32 × (Nat → Int32)) :=
  if jin (-s2.1) 100 = true then
    if jin (s2.2.1 + (-1)) m = true then
      if (-9) ≤ s2.1 then
        some (s2.2.1 + (-1), upd s2.2.2 (s2.2.1 + (-1)).toNatClampNeg (vp_nar .byte (jOnesI (-s2.1).toNatClampNeg)))
      else
        if jin (-s2.1) 100 = true then
          if jin ((s2.2.1 + (-1)) + (-1)) m = true then
            some ((s2.2.1 + (-1)) + (-1), upd (upd s2.2.2 (s2.2.1 + (-1)).toNatClampNeg (vp_nar .byte (jOnesI (-s2.1).toNatClampNeg))) ((s2.2.1 + (-1)) + (-1)).toNatClampNeg (vp_nar .byte (jTensI (-s2.1).toNatClampNeg)))
          else none
        else none
    else none
  else none
theorem j6_get {m v : Nat} {f : Nat → Int32} {p : Int32} (hv : v < 1000000) : f_J6_getChars_ba4f3 m f (nI v) p = Option.bind (f_J6_getChars_ba4f3_L22 m jFU (-nI v) p f) (fun s2 => j6_f m s2) := by
  unfold f_J6_getChars_ba4f3
  rw [if_pos (show (0 : Int32) ≤ nI v by rw [show (0 : Int32) = nI 0 from rfl, z_le (by omega) (by omega)]; omega)]
  rfl
theorem j6_f1 {m w p : Nat} {f : Nat → Int32} (hw : w < 10) (hp : 1 ≤ p) (hm : p ≤ m) (hm2 : m < 1000) : j6_f m (-nI w, nI p, f) = some (nI (p - 1), upd f (p - 1) (nI (48 + w))) := by
  have e2 : nI p + (-1) = nI (p - 1) := z_mm (by omega)
  have j1 : jin (nI w) 100 = true := by rw [z_jin (by omega)]; simp; omega
  have j2 : jin (nI (p - 1)) m = true := by rw [z_jin (by omega)]; simp; omega
  have b1 := (z_byte (48 + w % 10) (by omega)).1
  unfold j6_f
  simp only [z_nn, e2, j1, j2, if_true]
  rw [if_pos (show (-9 : Int32) ≤ -nI w by rw [show (-9 : Int32) = -nI 9 from rfl, sb_nle (by omega) (by omega)]; omega), z_cl (by omega), z_cl (by omega)]
  unfold jOnesI
  rw [show Int32.ofNat (48 + w % 10) = nI (48 + w % 10) from rfl, b1, show w % 10 = w by omega]
theorem j6_f2 {m w p : Nat} {f : Nat → Int32} (hw : w < 100) (h1 : 10 ≤ w) (hp : 2 ≤ p) (hm : p ≤ m) (hm2 : m < 1000) : j6_f m (-nI w, nI p, f) = some (nI (p - 2), upd (upd f (p - 1) (nI (48 + w % 10))) (p - 2) (nI (48 + w / 10))) := by
  have e2 : nI p + (-1) = nI (p - 1) := z_mm (by omega)
  have e3 : nI (p - 1) + (-1) = nI (p - 2) := z_mm (by omega)
  have j1 : jin (nI w) 100 = true := by rw [z_jin (by omega)]; simp; omega
  have j2 : jin (nI (p - 1)) m = true := by rw [z_jin (by omega)]; simp; omega
  have j3 : jin (nI (p - 2)) m = true := by rw [z_jin (by omega)]; simp; omega
  have b1 := (z_byte (48 + w % 10) (by omega)).1
  have b2 := (z_byte (48 + w / 10) (by omega)).1
  unfold j6_f
  simp only [z_nn, e2, e3, j1, j2, j3, if_true]
  rw [if_neg (show ¬ (-9 : Int32) ≤ -nI w by rw [show (-9 : Int32) = -nI 9 from rfl, sb_nle (by omega) (by omega)]; omega), z_cl (by omega), z_cl (by omega), z_cl (by omega)]
  unfold jOnesI jTensI
  rw [show Int32.ofNat (48 + w % 10) = nI (48 + w % 10) from rfl, show Int32.ofNat (48 + w / 10) = nI (48 + w / 10) from rfl, b1, b2]
/-- what is written: e + 1 digits from the place n on -/
def zWr (v e n : Nat) (f f' : Nat → Int32) : Prop := (∀ j, j ≤ e → f' (n + j) = nI (48 + v / 10 ^ (e - j) % 10)) ∧ (∀ k, k < n → f' k = f k) ∧ (zA f → zA f')
theorem j6_chars {m v e n : Nat} {f : Nat → Int32} (hv : v < 1000000) (h : zDl v e) (hm : n + e + 1 ≤ m) (hm2 : m < 1000) : ∃ r f', f_J6_getChars_ba4f3 m f (nI v) (nI (n + e + 1)) = some (r, f') ∧ zWr v e n f f' := by
  have hl := zDl_lt h
  have hg : ∀ i, i < e → 10 ^ (i + 1) ≤ v := fun i hi => zDl_ge h hi
  have he := h.1
  rw [j6_get hv, show jFU = 999997 + 1 + 1 + 1 from rfl]
  have fin1 : ∀ (w p : Nat) (g : Nat → Int32), w < 10 → 1 ≤ p → p ≤ m → ∃ r, Option.bind (some (-nI w, nI p, g)) (fun s2 => j6_f m s2) = some (r, upd g (p - 1) (nI (48 + w))) := fun w p g a1 a2 a3 => ⟨_, by rw [z_bind, j6_f1 a1 a2 a3 hm2]⟩
  have fin2 : ∀ (w p : Nat) (g : Nat → Int32), w < 100 → 10 ≤ w → 2 ≤ p → p ≤ m → ∃ r, Option.bind (some (-nI w, nI p, g)) (fun s2 => j6_f m s2) = some (r, upd (upd g (p - 1) (nI (48 + w % 10))) (p - 2) (nI (48 + w / 10))) := fun w p g a1 a0 a2 a3 => ⟨_, by rw [z_bind, j6_f2 a1 a0 a2 a3 hm2]⟩
  rcases (show e = 0 ∨ e = 1 ∨ e = 2 ∨ e = 3 ∨ e = 4 ∨ e = 5 by omega) with rfl | rfl | rfl | rfl | rfl | rfl
  · have l : v < 10 := hl
    rw [j6_stop (by omega)]
    obtain ⟨r, hr⟩ := fin1 v (n + 0 + 1) f l (by omega) (by omega)
    refine ⟨r, _, hr, fun j hj => ?_, fun k hk => z_updn _ (by omega), fun q => zA_upd q (by omega)⟩
    obtain rfl : j = 0 := by omega
    rw [z_upde (show n + 0 = n + 0 + 1 - 1 by omega)]
    exact congrArg nI (show 48 + v = 48 + v / 10 ^ 0 % 10 by rw [Nat.pow_zero]; omega)
  · have l : v < 100 := hl
    have g0 : 10 ≤ v := hg 0 (by omega)
    rw [j6_stop (by omega)]
    obtain ⟨r, hr⟩ := fin2 v (n + 1 + 1) f l g0 (by omega) (by omega)
    refine ⟨r, _, hr, fun j hj => ?_, fun k hk => by rw [z_updn _ (by omega), z_updn _ (by omega)], fun q => zA_upd (zA_upd q (by omega)) (by omega)⟩
    rcases (show j = 0 ∨ j = 1 by omega) with rfl | rfl
    · rw [z_upde (show n + 0 = n + 1 + 1 - 2 by omega)]
      exact congrArg nI (show 48 + v / 10 = 48 + v / 10 ^ 1 % 10 by rw [Nat.pow_one]; omega)
    · rw [z_updn _ (by omega), z_upde (show n + 1 = n + 1 + 1 - 1 by omega)]
      exact congrArg nI (show 48 + v % 10 = 48 + v / 10 ^ 0 % 10 by rw [Nat.pow_zero]; omega)
  · have l : v < 1000 := hl
    have g0 : 100 ≤ v := hg 1 (by omega)
    rw [j6_step hv g0 (by omega) hm hm2, j6_stop (by omega)]
    obtain ⟨r, hr⟩ := fin1 (v / 100) (n + 2 + 1 - 2) (upd (upd f (n + 2 + 1 - 1) (nI (48 + v % 100 % 10))) (n + 2 + 1 - 2) (nI (48 + v % 100 / 10))) (by omega) (by omega) (by omega)
    refine ⟨r, _, hr, fun j hj => ?_, fun k hk => by rw [z_updn _ (by omega), z_updn _ (by omega), z_updn _ (by omega)], fun q => zA_upd (zA_upd (zA_upd q (by omega)) (by omega)) (by omega)⟩
    rcases (show j = 0 ∨ j = 1 ∨ j = 2 by omega) with rfl | rfl | rfl
    · rw [z_upde (show n + 0 = n + 2 + 1 - 2 - 1 by omega)]
      exact congrArg nI (show 48 + v / 100 = 48 + v / 100 % 10 by omega)
    · rw [z_updn _ (by omega), z_upde (show n + 1 = n + 2 + 1 - 2 by omega)]
      exact congrArg nI (show 48 + v % 100 / 10 = 48 + v / 10 % 10 by omega)
    · rw [z_updn _ (by omega), z_updn _ (by omega), z_upde (show n + 2 = n + 2 + 1 - 1 by omega)]
      exact congrArg nI (show 48 + v % 100 % 10 = 48 + v / 1 % 10 by omega)
  · have l : v < 10000 := hl
    have g0 : 1000 ≤ v := hg 2 (by omega)
    rw [j6_step hv (by omega) (by omega) hm hm2, j6_stop (by omega)]
    obtain ⟨r, hr⟩ := fin2 (v / 100) (n + 3 + 1 - 2) (upd (upd f (n + 3 + 1 - 1) (nI (48 + v % 100 % 10))) (n + 3 + 1 - 2) (nI (48 + v % 100 / 10))) (by omega) (by omega) (by omega) (by omega)
    refine ⟨r, _, hr, fun j hj => ?_, fun k hk => by rw [z_updn _ (by omega), z_updn _ (by omega), z_updn _ (by omega), z_updn _ (by omega)], fun q => zA_upd (zA_upd (zA_upd (zA_upd q (by omega)) (by omega)) (by omega)) (by omega)⟩
    rcases (show j = 0 ∨ j = 1 ∨ j = 2 ∨ j = 3 by omega) with rfl | rfl | rfl | rfl
    · rw [z_upde (show n + 0 = n + 3 + 1 - 2 - 2 by omega)]
      exact congrArg nI (show 48 + v / 100 / 10 = 48 + v / 1000 % 10 by omega)
    · rw [z_updn _ (by omega), z_upde (show n + 1 = n + 3 + 1 - 2 - 1 by omega)]
    · rw [z_updn _ (by omega), z_updn _ (by omega), z_upde (show n + 2 = n + 3 + 1 - 2 by omega)]
      exact congrArg nI (show 48 + v % 100 / 10 = 48 + v / 10 % 10 by omega)
    · rw [z_updn _ (by omega), z_updn _ (by omega), z_updn _ (by omega), z_upde (show n + 3 = n + 3 + 1 - 1 by omega)]
      exact congrArg nI (show 48 + v % 100 % 10 = 48 + v / 1 % 10 by omega)
  · have l : v < 100000 := hl
    have g0 : 10000 ≤ v := hg 3 (by omega)
    rw [j6_step hv (by omega) (by omega) hm hm2, j6_step (by omega) (by omega) (by omega) (by omega) hm2, j6_stop (by omega)]
    obtain ⟨r, hr⟩ := fin1 (v / 100 / 100) (n + 4 + 1 - 2 - 2) (upd (upd (upd (upd f (n + 4 + 1 - 1) (nI (48 + v % 100 % 10))) (n + 4 + 1 - 2) (nI (48 + v % 100 / 10))) (n + 4 + 1 - 2 - 1) (nI (48 + v / 100 % 100 % 10))) (n + 4 + 1 - 2 - 2) (nI (48 + v / 100 % 100 / 10))) (by omega) (by omega) (by omega)
    refine ⟨r, _, hr, fun j hj => ?_, fun k hk => by rw [z_updn _ (by omega), z_updn _ (by omega), z_updn _ (by omega), z_updn _ (by omega), z_updn _ (by omega)], fun q => zA_upd (zA_upd (zA_upd (zA_upd (zA_upd q (by omega)) (by omega)) (by omega)) (by omega)) (by omega)⟩
    rcases (show j = 0 ∨ j = 1 ∨ j = 2 ∨ j = 3 ∨ j = 4 by omega) with rfl | rfl | rfl | rfl | rfl
    · rw [z_upde (show n + 0 = n + 4 + 1 - 2 - 2 - 1 by omega)]
      exact congrArg nI (show 48 + v / 100 / 100 = 48 + v / 10000 % 10 by omega)
    · rw [z_updn _ (by omega), z_upde (show n + 1 = n + 4 + 1 - 2 - 2 by omega)]
      exact congrArg nI (show 48 + v / 100 % 100 / 10 = 48 + v / 1000 % 10 by omega)
    · rw [z_updn _ (by omega), z_updn _ (by omega), z_upde (show n + 2 = n + 4 + 1 - 2 - 1 by omega)]
      exact congrArg nI (show 48 + v / 100 % 100 % 10 = 48 + v / 100 % 10 by omega)
    · rw [z_updn _ (by omega), z_updn _ (by omega), z_updn _ (by omega), z_upde (show n + 3 = n + 4 + 1 - 2 by omega)]
      exact congrArg nI (show 48 + v % 100 / 10 = 48 + v / 10 % 10 by omega)
    · rw [z_updn _ (by omega), z_updn _ (by omega), z_updn _ (by omega), z_updn _ (by omega), z_upde (show n + 4 = n + 4 + 1 - 1 by omega)]
      exact congrArg nI (show 48 + v % 100 % 10 = 48 + v / 1 % 10 by omega)
  · have l : v < 1000000 := hl
    have g0 : 100000 ≤ v := hg 4 (by omega)
    rw [j6_step hv (by omega) (by omega) hm hm2, j6_step (by omega) (by omega) (by omega) (by omega) hm2, j6_stop (by omega)]
    obtain ⟨r, hr⟩ := fin2 (v / 100 / 100) (n + 5 + 1 - 2 - 2) (upd (upd (upd (upd f (n + 5 + 1 - 1) (nI (48 + v % 100 % 10))) (n + 5 + 1 - 2) (nI (48 + v % 100 / 10))) (n + 5 + 1 - 2 - 1) (nI (48 + v / 100 % 100 % 10))) (n + 5 + 1 - 2 - 2) (nI (48 + v / 100 % 100 / 10))) (by omega) (by omega) (by omega) (by omega)
    refine ⟨r, _, hr, fun j hj => ?_, fun k hk => by rw [z_updn _ (by omega), z_updn _ (by omega), z_updn _ (by omega), z_updn _ (by omega), z_updn _ (by omega), z_updn _ (by omega)], fun q => zA_upd (zA_upd (zA_upd (zA_upd (zA_upd (zA_upd q (by omega)) (by omega)) (by omega)) (by omega)) (by omega)) (by omega)⟩
    rcases (show j = 0 ∨ j = 1 ∨ j = 2 ∨ j = 3 ∨ j = 4 ∨ j = 5 by omega) with rfl | rfl | rfl | rfl | rfl | rfl
    · rw [z_upde (show n + 0 = n + 5 + 1 - 2 - 2 - 2 by omega)]
      exact congrArg nI (show 48 + v / 100 / 100 / 10 = 48 + v / 100000 % 10 by omega)
    · rw [z_updn _ (by omega), z_upde (show n + 1 = n + 5 + 1 - 2 - 2 - 1 by omega)]
      exact congrArg nI (show 48 + v / 100 / 100 % 10 = 48 + v / 10000 % 10 by omega)
    · rw [z_updn _ (by omega), z_updn _ (by omega), z_upde (show n + 2 = n + 5 + 1 - 2 - 2 by omega)]
      exact congrArg nI (show 48 + v / 100 % 100 / 10 = 48 + v / 1000 % 10 by omega)
    · rw [z_updn _ (by omega), z_updn _ (by omega), z_updn _ (by omega), z_upde (show n + 3 = n + 5 + 1 - 2 - 1 by omega)]
      exact congrArg nI (show 48 + v / 100 % 100 % 10 = 48 + v / 100 % 10 by omega)
    · rw [z_updn _ (by omega), z_updn _ (by omega), z_updn _ (by omega), z_updn _ (by omega), z_upde (show n + 4 = n + 5 + 1 - 2 by omega)]
      exact congrArg nI (show 48 + v % 100 / 10 = 48 + v / 10 % 10 by omega)
    · rw [z_updn _ (by omega), z_updn _ (by omega), z_updn _ (by omega), z_updn _ (by omega), z_updn _ (by omega), z_upde (show n + 5 = n + 5 + 1 - 1 by omega)]
      exact congrArg nI (show 48 + v % 100 % 10 = 48 + v / 1 % 10 by omega)

/-! PURE: reading a number of the script, both sides -/
/-- up to k digits from p on: where reading stops, and the number -/
def zRn (f : Nat → Int32) (l : Nat) : Nat → Nat → Int32 → Nat × Int32
  | 0, p, v => (p, v)
  | k + 1, p, v => if p < l ∧ zDg (f p) then zRn f l k (p + 1) ((10 : Int32) * v + (f p - 48)) else (p, v)
theorem zRn_le (f : Nat → Int32) (l : Nat) : ∀ k p v, p ≤ l → p ≤ (zRn f l k p v).1 ∧ (zRn f l k p v).1 ≤ l ∧ (zRn f l k p v).1 ≤ p + k := by
  intro k
  induction k with
  | zero => intro p v h; exact ⟨Nat.le_refl _, h, Nat.le_refl _⟩
  | succ k ih =>
    intro p v h
    unfold zRn
    by_cases c : p < l ∧ zDg (f p)
    · rw [if_pos c]
      have := ih (p + 1) ((10 : Int32) * v + (f p - 48)) c.1
      omega
    · rw [if_neg c]; omega
theorem zRn_cong {f g : Nat → Int32} {l : Nat} (h : ∀ x, x < l → f x = g x) : ∀ k p v, zRn f l k p v = zRn g l k p v := by
  intro k
  induction k with
  | zero => intro p v; rfl
  | succ k ih =>
    intro p v
    unfold zRn
    by_cases c : p < l
    · rw [h p c, ih]
    · rw [if_neg (fun q => c q.1), if_neg (fun q => c q.1)]
section ZN
variable {l p : Nat} {pt inp : Nat → Int32}
theorem x6_numL (hl : l ≤ 60) (a : Nat) (ha : a ≤ 3) : ∀ k i p v fu, i + k = a → p ≤ l → k < fu → f_X6_readNumber_L4 pt (nI l) (nI a) fu (nI i) v (nI p) = some (nI (i + ((zRn pt l k p v).1 - p)), (zRn pt l k p v).2, nI (zRn pt l k p v).1) := by
  intro k
  induction k with
  | zero =>
    intro i p v fu hi hp hf
    obtain ⟨fu, rfl⟩ : ∃ g, fu = g + 1 := ⟨fu - 1, by omega⟩
    obtain rfl : i = a := by omega
    rw [f_X6_readNumber_L4, if_pos (nI_le (Nat.le_refl _) (by omega))]
    unfold zRn
    rw [Nat.sub_self, Nat.add_zero]
  | succ k ih =>
    intro i p v fu hi hp hf
    obtain ⟨fu, rfl⟩ : ∃ g, fu = g + 1 := ⟨fu - 1, by omega⟩
    rw [f_X6_readNumber_L4, if_neg (nI_ge (by omega) (by omega)), x6_isDigit hl hp, z_bind]
    by_cases c : p < l ∧ zDg (pt p)
    · rw [if_neg (show ¬ (if p < l ∧ zDg (pt p) then (1 : Int32) else 0) = 0 by rw [if_pos c]; decide), if_pos (show jin (nI p) 60 = true by rw [z_jin (by omega)]; simp; omega), z_cl (by omega), nI_1, nI_1, ih (i + 1) (p + 1) _ fu (by omega) c.1 (by omega)]
      have le := zRn_le pt l k (p + 1) ((10 : Int32) * v + (pt p - 48)) c.1
      rw [show zRn pt l (k + 1) p v = zRn pt l k (p + 1) ((10 : Int32) * v + (pt p - 48)) by conv => lhs; unfold zRn; rw [if_pos c]]
      rw [show i + 1 + ((zRn pt l k (p + 1) ((10 : Int32) * v + (pt p - 48))).1 - (p + 1)) = i + ((zRn pt l k (p + 1) ((10 : Int32) * v + (pt p - 48))).1 - p) by omega]
    · rw [if_pos (show (if p < l ∧ zDg (pt p) then (1 : Int32) else 0) = 0 by rw [if_neg c]), show zRn pt l (k + 1) p v = (p, v) by conv => lhs; unfold zRn; rw [if_neg c]]
      dsimp only
      rw [Nat.sub_self, Nat.add_zero]
theorem x6_readNumber {a : Nat} (pc pn : Int32) (pa : Nat → Int32) (hl : l ≤ 60) (ha : a ≤ 3) (hp : p ≤ l) : f_X6_readNumber pt (nI l) (nI p) pc pa pn (nI a) = if (zRn pt l a p 0).1 = p then some (0, nI p, pa, pn) else Option.bind (f_X6_store pc pa pn (zRn pt l a p 0).2) (fun u => some (1, nI (zRn pt l a p 0).1, u.1, u.2)) := by
  have le := zRn_le pt l a p 0 hp
  unfold f_X6_readNumber
  rw [show f_X6_readNumber_L4 pt (nI l) (nI a) jFU 0 0 (nI p) = _ from x6_numL hl a ha a 0 p 0 jFU (by omega) hp (pz_jFU (by omega)), z_bind]
  dsimp only
  by_cases c : (zRn pt l a p 0).1 = p
  · rw [if_pos c, if_pos (show nI (0 + ((zRn pt l a p 0).1 - p)) = 0 by rw [c, Nat.sub_self]; rfl), c]
  · rw [if_neg c, if_neg (show ¬ nI (0 + ((zRn pt l a p 0).1 - p)) = 0 from z_ne0 (by omega) (by omega))]
theorem x10_numL (hl : l ≤ 60) : ∀ k i p v fu, i + k = 2 → p ≤ l → k < fu → ∃ x, f_X10_number_L7 inp (nI l) fu (nI i) v (nI p) 0 = some (x, (zRn inp l k p v).2, nI (zRn inp l k p v).1, 0) := by
  intro k
  induction k with
  | zero =>
    intro i p v fu hi hp hf
    obtain ⟨fu, rfl⟩ : ∃ g, fu = g + 1 := ⟨fu - 1, by omega⟩
    obtain rfl : i = 2 := by omega
    rw [f_X10_number_L7, if_pos (by decide)]
    exact ⟨_, rfl⟩
  | succ k ih =>
    intro i p v fu hi hp hf
    obtain ⟨fu, rfl⟩ : ∃ g, fu = g + 1 := ⟨fu - 1, by omega⟩
    rw [f_X10_number_L7, if_neg (show ¬ (2 : Int32) ≤ nI i from nI_ge (b := 2) (by omega) (by omega)), if_pos rfl, x10_here hl hp, z_bind, x10_digit hl hp]
    by_cases c : p < l ∧ zDg (inp p)
    · rw [show (if p < l then inp p else -1) = inp p from if_pos c.1, z_inT (y := 48) (z := 57) (nI 48) (nI 57) rfl rfl c.2, z_bind, if_neg z_n10, if_pos c, z_bind, nI_1]
      obtain ⟨x, e⟩ := ih (i + 1) (p + 1) ((10 : Int32) * v + (inp p - 48)) fu (by omega) c.1 (by omega)
      refine ⟨x, ?_⟩
      rw [show zRn inp l (k + 1) p v = zRn inp l k (p + 1) ((10 : Int32) * v + (inp p - 48)) by conv => lhs; unfold zRn; rw [if_pos c]]
      exact e
    · have f0 : f_X10_in (if p < l then inp p else -1).toInt64 48 57 = some 0 := by
        by_cases d : p < l
        · rw [if_pos d]
          exact z_inF (y := 48) (z := 57) (nI 48) (nI 57) rfl rfl (fun h => c ⟨d, h⟩)
        · rw [if_neg d]; decide
      rw [f0, z_bind, if_pos rfl, show zRn inp l (k + 1) p v = (p, v) by conv => lhs; unfold zRn; rw [if_neg c]]
      exact ⟨_, rfl⟩
theorem x10_numberRead (hl : l ≤ 60) (hp : p ≤ l) : f_X10_number inp (nI p) (nI l) 0 = if (zRn inp l 3 p 0).1 = p then some (0, nI p, 1) else some ((zRn inp l 3 p 0).2, nI (zRn inp l 3 p 0).1, 0) := by
  unfold f_X10_number
  rw [x10_digit hl hp, z_bind]
  by_cases c : p < l ∧ zDg (inp p)
  · rw [if_pos c]
    dsimp only
    have e3 : zRn inp l 3 p 0 = zRn inp l 2 (p + 1) (inp p - 48) := by
      conv => lhs; unfold zRn; rw [if_pos c]
      rw [show (10 : Int32) * 0 + (inp p - 48) = inp p - 48 by rw [show (10 : Int32) * 0 = 0 by decide, Int32.zero_add]]
    have le := zRn_le inp l 2 (p + 1) (inp p - 48) c.1
    obtain ⟨x, e⟩ := x10_numL (inp := inp) hl 2 0 (p + 1) (inp p - 48) jFU rfl c.1 (pz_jFU (by omega))
    rw [show f_X10_number_L7 inp (nI l) jFU 0 (inp p - 48) (nI (p + 1)) 0 = _ from e, z_bind, e3, if_neg (by omega)]
  · rw [if_neg c]
    dsimp only
    have e3 : zRn inp l 3 p 0 = (p, 0) := by
      conv => lhs; unfold zRn; rw [if_neg c]
    have el : f_X10_number_L7 inp (nI l) jFU 0 0 (nI p) 1 = some (0, 0, nI p, 1) := by
      obtain ⟨fu, hfu⟩ : ∃ g, jFU = g + 1 := ⟨jFU - 1, by have := pz_jFU (n := 0) (by omega); omega⟩
      rw [hfu, f_X10_number_L7, if_neg (by decide), if_neg z_n10]
    rw [el, z_bind, e3, if_pos rfl]
end ZN

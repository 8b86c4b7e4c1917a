/-! READING: the model's words -/
section ZCG
variable {l : Nat} {f g : Nat → Int32}
theorem zPt_cong (h : ∀ x, x < l → f x = g x) (ch : Int32) (p : Nat) : zPt f l ch p = zPt g l ch p := by
  unfold zPt
  rw [zRn_cong h, zRn_cong h]
  by_cases c : p < l
  · rw [h p c]
  · rw [if_neg (fun q : p < l ∧ f p = ch => c q.1), if_neg (fun q : p < l ∧ g p = ch => c q.1)]
theorem zFm_cong (h : ∀ x, x < l → f x = g x) : ∀ (r : List Int32) (p : Nat), zFm f l r p = zFm g l r p := by
  intro r
  induction r with
  | nil => intro p; rfl
  | cons ch r ih =>
    intro p
    unfold zFm
    rw [zPt_cong h]
    cases zPt g l ch p with
    | none => rfl
    | some qo => dsimp only; rw [ih]
theorem zOd_cong (h : ∀ x, x < l → f x = g x) (p : Nat) : zOd f l p = zOd g l p := by
  unfold zOd
  rw [zRn_cong h]
  by_cases c : p < l
  · rw [h p c]
  · rw [if_neg (fun q : p < l ∧ f p = 32 => c q.1), if_neg (fun q : p < l ∧ g p = 32 => c q.1)]
theorem zRd_cong (h : ∀ x, x < l → f x = g x) (k p : Nat) : zRd f l k p = zRd g l k p := by
  unfold zRd
  rw [zFm_cong h, zOd_cong h]
theorem zFst_cong (h : ∀ x, x < l → f x = g x) (p : Nat) : ∀ (d j : Nat), zFst f l p j d = zFst g l p j d := by
  intro d
  induction d with
  | zero => intro j; rfl
  | succ d ih => intro j; unfold zFst; rw [zRd_cong h, ih]
theorem zMx_cong (h : ∀ x, x < l → f x = g x) (p : Nat) : ∀ (d j m : Nat), zMx f l p j d m = zMx g l p j d m := by
  intro d
  induction d with
  | zero => intro j m; rfl
  | succ d ih => intro j m; unfold zMx; rw [zRd_cong h, ih]
theorem zSc_cong (h : ∀ x, x < l → f x = g x) : ∀ (d p : Nat), p ≤ l → zSc f l d p = zSc g l d p := by
  intro d
  induction d with
  | zero => intro p _; rfl
  | succ d ih =>
    intro p hp
    unfold zSc
    rw [zFst_cong h]
    cases e : zFst g l p 0 10 with
    | none => dsimp only; rw [zMx_cong h]
    | some k =>
      dsimp only
      rw [zRd_cong h]
      have le := zRd_le (pt := g) (k := k) (p := p) (by have := zFst_lt 10 0 e; omega) hp
      by_cases c : (zRd g l k p).2.1 = l
      · rw [if_pos c, if_pos c]
      · rw [if_neg c, if_neg c, h _ (by omega), ih _ (by omega)]
end ZCG
/-! THE MODEL'S WORDS -/
/-- how many of the signs w stand at p -/
def zPx (f : Nat → Int32) (l : Nat) : List Int32 → Nat → Nat
  | [], _ => 0
  | ch :: r, p => if p < l ∧ f p = ch then 1 + zPx f l r (p + 1) else 0
def zWb (k : Nat) : Nat := (mB11 k).toNatClampNeg
def zWl (k : Nat) : Nat := zWb (k + 1) - zWb k
def zWd (k : Nat) : List Int32 := (List.range' (zWb k) (zWl k)).map mL49
/-- what follows the word in the form -/
def zWy (k : Nat) : List Int32 := (zCs k 0 (jFl k)).drop (zWl k)
theorem zW_facts : ∀ k, k < 10 → zCs k 0 (jFl k) = zWd k ++ zWy k ∧ (∀ ch ∈ zWd k, ch ≠ 78 ∧ ch ≠ 68) ∧ zWb k + zWl k ≤ 49 ∧ mB11 k = nI (zWb k) ∧ mB11 (k + 1) - mB11 k = nI (zWl k) ∧ 3 ≤ zWl k ∧ (zWd k).length = zWl k ∧ zWl k ≤ 7 := by decide +kernel
theorem zW_free : ∀ k, k < 10 → ∀ b, b < 10 → k = b ∨ ∃ j, j < 7 ∧ j < zWl k ∧ j < zWl b ∧ (zWd k).getD j 0 ≠ (zWd b).getD j 0 := by decide +kernel
section ZWS
variable {l : Nat} {f : Nat → Int32}
theorem zPx_le : ∀ (w : List Int32) (p : Nat), zPx f l w p ≤ w.length ∧ (p ≤ l → p + zPx f l w p ≤ l) ∧ ∀ j, j < zPx f l w p → f (p + j) = w.getD j 0 := by
  intro w
  induction w with
  | nil => intro p; exact ⟨Nat.le_refl _, fun h => h, fun j hj => absurd hj (Nat.not_lt_zero j)⟩
  | cons ch r ih =>
    intro p
    unfold zPx
    by_cases c : p < l ∧ f p = ch
    · rw [if_pos c]
      obtain ⟨i1, i2, i3⟩ := ih (p + 1)
      refine ⟨by simp only [List.length_cons]; omega, fun h => by have := i2 c.1; omega, fun j hj => ?_⟩
      cases j with
      | zero => exact c.2
      | succ j =>
        have := i3 j (by omega)
        rw [show p + (j + 1) = p + 1 + j by omega, this]; rfl
    · rw [if_neg c]
      exact ⟨Nat.zero_le _, fun h => h, fun j hj => absurd hj (Nat.not_lt_zero j)⟩
theorem zFm_cons (ch : Int32) (r : List Int32) (p : Nat) : zFm f l (ch :: r) p = match zPt f l ch p with | none => (false, p, []) | some qo => ((zFm f l r qo.1).1, (zFm f l r qo.1).2.1, qo.2 ++ (zFm f l r qo.1).2.2) := rfl
theorem zFm_lit (r : List Int32) : ∀ (w : List Int32) (p : Nat), (∀ ch ∈ w, ch ≠ 78 ∧ ch ≠ 68) → zFm f l (w ++ r) p = if zPx f l w p = w.length then zFm f l r (p + w.length) else (false, p + zPx f l w p, []) := by
  intro w
  induction w with
  | nil => intro p _; rfl
  | cons ch w ih =>
    intro p h
    have h1 := h ch List.mem_cons_self
    show zFm f l (ch :: (w ++ r)) p = _
    rw [zFm_cons]
    unfold zPx zPt
    rw [if_neg h1.1, if_neg h1.2]
    by_cases c : p < l ∧ f p = ch
    · rw [if_pos c, if_pos c]
      dsimp only
      rw [ih (p + 1) (fun x hx => h x (List.mem_cons_of_mem _ hx))]
      simp only [List.length_cons]
      by_cases e : zPx f l w (p + 1) = w.length
      · rw [if_pos e, if_pos (by omega), show p + 1 + w.length = p + (w.length + 1) by omega]
        rfl
      · rw [if_neg e, if_neg (by omega), show p + 1 + zPx f l w (p + 1) = p + (1 + zPx f l w (p + 1)) by omega]
        rfl
    · rw [if_neg c, if_neg c]
      dsimp only
      rw [if_neg (by simp only [List.length_cons]; omega)]
      rfl
theorem zRd_word {k : Nat} (hk : k < 10) (p : Nat) : (zPx f l (zWd k) p = zWl k → zFm f l (zCs k 0 (jFl k)) p = zFm f l (zWy k) (p + zWl k)) ∧ (zPx f l (zWd k) p ≠ zWl k → zRd f l k p = (false, p + zPx f l (zWd k) p, [])) := by
  obtain ⟨a1, a2, -, -, -, -, a7, -⟩ := zW_facts k hk
  have e := zFm_lit (f := f) (l := l) (zWy k) (zWd k) p a2
  rw [← a1, a7] at e
  refine ⟨fun h => by rw [e, if_pos h], fun h => ?_⟩
  rw [if_neg h] at e
  unfold zRd
  rw [e]
  by_cases c : k = 9
  · rw [if_pos c, if_neg (show ¬ false = true by decide)]
  · rw [if_neg c]
/-- two words cannot both stand there -/
theorem zW_one {k b p : Nat} (hk : k < 10) (hb : b < 10) (h1 : zPx f l (zWd k) p = zWl k) (h2 : zWl k ≤ zPx f l (zWd b) p ∨ zPx f l (zWd b) p = zWl b) : k = b := by
  rcases zW_free k hk b hb with h | ⟨j, j7, jk, jb, ne⟩
  · exact h
  · have g1 := (zPx_le (f := f) (l := l) (zWd k) p).2.2 j (by omega)
    have g2 := (zPx_le (f := f) (l := l) (zWd b) p).2.2 j (by omega)
    exact absurd (g1.symm.trans g2) ne
theorem zMx_const {p M : Nat} : ∀ (d j m : Nat), m ≤ M → (∀ k, j ≤ k → k < j + d → (zRd f l k p).2.1 ≤ M) → (m = M ∨ ∃ k, j ≤ k ∧ k < j + d ∧ (zRd f l k p).2.1 = M) → zMx f l p j d m = M := by
  intro d
  induction d with
  | zero =>
    intro j m hm _ h
    rcases h with h | ⟨k, h1, h2, -⟩
    · exact h
    · omega
  | succ d ih =>
    intro j m hm hk h
    unfold zMx
    have g := hk j (Nat.le_refl _) (by omega)
    refine ih (j + 1) _ (by omega) (fun k h1 h2 => hk k (by omega) (by omega)) ?_
    rcases h with h | ⟨k, h1, h2, h3⟩
    · exact Or.inl (by omega)
    · by_cases c : k = j
      · subst c; exact Or.inl (by omega)
      · exact Or.inr ⟨k, by omega, by omega, h3⟩
theorem zFst_none {p : Nat} : ∀ (d j : Nat), (∀ k, j ≤ k → k < j + d → ¬ (zRd f l k p).1 = true) → zFst f l p j d = none := by
  intro d
  induction d with
  | zero => intro j _; rfl
  | succ d ih =>
    intro j h
    unfold zFst
    rw [if_neg (h j (Nat.le_refl _) (by omega))]
    exact ih (j + 1) (fun k h1 h2 => h k (by omega) (by omega))
theorem zFst_one {p b : Nat} (hb : (zRd f l b p).1 = true) : ∀ (d j : Nat), j ≤ b → b < j + d → (∀ k, j ≤ k → k < b → ¬ (zRd f l k p).1 = true) → zFst f l p j d = some b := by
  intro d
  induction d with
  | zero => intro j h1 h2; omega
  | succ d ih =>
    intro j h1 h2 h
    unfold zFst
    by_cases c : j = b
    · subst c; rw [if_pos hb]
    · rw [if_neg (h j (Nat.le_refl _) (by omega))]
      exact ih (j + 1) (by omega) (by omega) (fun k h3 h4 => h k (by omega) h4)
end ZWS
/-! THE MODEL READS -/
def zw (w : Bool) : Int32 := if w = true then 1 else 0
/-- a number of up to a digits at (p, wrong) -/
def zS3 (f : Nat → Int32) (l a : Nat) (s : Nat × Bool) : Int32 × Nat × Bool :=
  if s.2 = true then (0, s.1, true) else if (zRn f l a s.1 0).1 = s.1 then (0, s.1, true) else ((zRn f l a s.1 0).2, (zRn f l a s.1 0).1, false)
def zSx (f : Nat → Int32) (l : Nat) (ch : Int32) (s : Nat × Bool) : Nat × Bool :=
  if s.2 = true then (s.1, true) else if s.1 < l ∧ f s.1 = ch then (s.1 + 1, false) else (s.1, true)
section ZMR
variable {l : Nat} {f : Nat → Int32}
theorem zS3_le {a : Nat} {s : Nat × Bool} (hp : s.1 ≤ l) : (zS3 f l a s).2.1 ≤ l := by
  unfold zS3
  have le := zRn_le f l a s.1 0 hp
  split
  · exact hp
  · split
    · exact hp
    · exact le.2.1
theorem zSx_le {ch : Int32} {s : Nat × Bool} (hp : s.1 ≤ l) : (zSx f l ch s).1 ≤ l := by
  unfold zSx
  split
  · exact hp
  · split
    · rename_i c; exact c.1
    · exact hp
theorem x10_numberW (q s : Int32) {w : Int32} (hw : ¬ w = 0) : f_X10_number f q s w = some (0, q, 1) := by
  unfold f_X10_number
  rw [x10_digitW q s hw, z_bind]
  dsimp only
  rw [show jFU = 999999 + 1 from rfl, f_X10_number_L7]
  rfl
theorem m_number {s : Nat × Bool} (hl : l ≤ 60) (hp : s.1 ≤ l) : f_X10_number f (nI s.1) (nI l) (zw s.2) = some ((zS3 f l 3 s).1, nI (zS3 f l 3 s).2.1, zw (zS3 f l 3 s).2.2) := by
  obtain ⟨p, w⟩ := s
  unfold zS3
  cases w with
  | true =>
    rw [x10_numberW _ _ (show ¬ zw true = 0 by decide), if_pos rfl]; rfl
  | false =>
    rw [show zw (p, false).2 = 0 from rfl, x10_numberRead hl hp, if_neg (show ¬ false = true by decide)]
    dsimp only
    by_cases c : (zRn f l 3 p 0).1 = p
    · rw [if_pos c, if_pos c]; rfl
    · rw [if_neg c, if_neg c]; rfl
theorem m_digit {s : Nat × Bool} (hl : l ≤ 60) (hp : s.1 ≤ l) : f_X10_digit f (nI s.1) (nI l) (zw s.2) = some ((zS3 f l 1 s).1, nI (zS3 f l 1 s).2.1, zw (zS3 f l 1 s).2.2) := by
  obtain ⟨p, w⟩ := s
  unfold zS3
  cases w with
  | true =>
    rw [x10_digitW _ _ (show ¬ zw true = 0 by decide), if_pos rfl]; rfl
  | false =>
    rw [show zw (p, false).2 = 0 from rfl, x10_digit hl hp, if_neg (show ¬ false = true by decide)]
    have e : zRn f l 1 p 0 = if p < l ∧ zDg (f p) then (p + 1, f p - 48) else (p, 0) := by
      show (if p < l ∧ zDg (f p) then (p + 1, (10 : Int32) * 0 + (f p - 48)) else (p, 0)) = _
      rw [show (10 : Int32) * 0 + (f p - 48) = f p - 48 by rw [show (10 : Int32) * 0 = 0 by decide, Int32.zero_add]]
    dsimp only
    rw [e]
    by_cases c : p < l ∧ zDg (f p)
    · rw [if_pos c, if_pos c, if_neg (show ¬ p + 1 = p by omega)]; rfl
    · rw [if_neg c, if_neg c, if_pos rfl]; rfl
theorem m_expects {s : Nat × Bool} {a : Int32} (ha : ¬ a = -1) (hl : l ≤ 60) (hp : s.1 ≤ l) : f_X10_expects f (nI s.1) (nI l) (zw s.2) a = some (nI (zSx f l a s).1, zw (zSx f l a s).2) := by
  obtain ⟨p, w⟩ := s
  unfold zSx
  cases w with
  | true =>
    rw [x10_expectsW _ _ _ (show ¬ zw true = 0 by decide), if_pos rfl]; rfl
  | false =>
    rw [show zw (p, false).2 = 0 from rfl, x10_expects a ha hl hp, if_neg (show ¬ false = true by decide)]
    dsimp only
    by_cases c : p < l ∧ f p = a
    · rw [if_pos c, if_pos c]; rfl
    · rw [if_neg c, if_neg c]; rfl
theorem m_numberB {s : Nat × Bool} {a : Int32} (ha : ¬ a = -1) (hl : l ≤ 60) (hp : s.1 ≤ l) : f_X10_numberBehind f (nI s.1) (nI l) (zw s.2) a = some ((zS3 f l 3 (zSx f l a s)).1, nI (zS3 f l 3 (zSx f l a s)).2.1, zw (zS3 f l 3 (zSx f l a s)).2.2) := by
  unfold f_X10_numberBehind
  rw [m_expects ha hl hp, z_bind]
  dsimp only
  rw [m_number hl (zSx_le hp), z_bind]
theorem m_digitB {s : Nat × Bool} {a : Int32} (ha : ¬ a = -1) (hl : l ≤ 60) (hp : s.1 ≤ l) : f_X10_digitBehind f (nI s.1) (nI l) (zw s.2) a = some ((zS3 f l 1 (zSx f l a s)).1, nI (zS3 f l 1 (zSx f l a s)).2.1, zw (zS3 f l 1 (zSx f l a s)).2.2) := by
  unfold f_X10_digitBehind
  rw [m_expects ha hl hp, z_bind]
  dsimp only
  rw [m_digit hl (zSx_le hp), z_bind]
def zMr (f : Nat → Int32) (l : Nat) : List Int32 → Nat × Bool → (Nat × Bool) × List Int32
  | [], s => (s, [])
  | ch :: r, s => if ch = 78 then ((zMr f l r (zS3 f l 3 s).2).1, (zS3 f l 3 s).1 :: (zMr f l r (zS3 f l 3 s).2).2) else if ch = 68 then ((zMr f l r (zS3 f l 1 s).2).1, (zS3 f l 1 s).1 :: (zMr f l r (zS3 f l 1 s).2).2) else zMr f l r (zSx f l ch s)
theorem zMr_w : ∀ (r : List Int32) (p : Nat), (zMr f l r (p, true)).1 = (p, true) := by
  intro r
  induction r with
  | nil => intro p; rfl
  | cons ch r ih =>
    intro p
    unfold zMr
    by_cases c1 : ch = 78
    · rw [if_pos c1]; exact ih p
    · rw [if_neg c1]
      by_cases c2 : ch = 68
      · rw [if_pos c2]; exact ih p
      · rw [if_neg c2]; exact ih p
theorem zMr_ok : ∀ (r : List Int32) (p : Nat), (zMr f l r (p, false)).1 = ((zFm f l r p).2.1, !(zFm f l r p).1) ∧ ((zFm f l r p).1 = true → (zMr f l r (p, false)).2 = (zFm f l r p).2.2) := by
  intro r
  induction r with
  | nil => intro p; exact ⟨rfl, fun _ => rfl⟩
  | cons ch r ih =>
    intro p
    rw [zFm_cons]
    unfold zMr zPt
    by_cases c1 : ch = 78
    · rw [if_pos c1, if_pos c1]
      by_cases c : (zRn f l 3 p 0).1 = p
      · have e : zS3 f l 3 (p, false) = (0, p, true) := by unfold zS3; rw [if_neg (show ¬ false = true by decide), if_pos c]
        rw [if_pos c, e]
        exact ⟨zMr_w r p, fun h => by cases h⟩
      · have e : zS3 f l 3 (p, false) = ((zRn f l 3 p 0).2, (zRn f l 3 p 0).1, false) := by unfold zS3; rw [if_neg (show ¬ false = true by decide), if_neg c]
        rw [if_neg c, e]
        have g := ih (zRn f l 3 p 0).1
        exact ⟨g.1, fun h => by show _ :: _ = [_] ++ _; rw [g.2 h]; rfl⟩
    · rw [if_neg c1, if_neg c1]
      by_cases c2 : ch = 68
      · rw [if_pos c2, if_pos c2]
        by_cases c : (zRn f l 1 p 0).1 = p
        · have e : zS3 f l 1 (p, false) = (0, p, true) := by unfold zS3; rw [if_neg (show ¬ false = true by decide), if_pos c]
          rw [if_pos c, e]
          exact ⟨zMr_w r p, fun h => by cases h⟩
        · have e : zS3 f l 1 (p, false) = ((zRn f l 1 p 0).2, (zRn f l 1 p 0).1, false) := by unfold zS3; rw [if_neg (show ¬ false = true by decide), if_neg c]
          rw [if_neg c, e]
          have g := ih (zRn f l 1 p 0).1
          exact ⟨g.1, fun h => by show _ :: _ = [_] ++ _; rw [g.2 h]; rfl⟩
      · rw [if_neg c2, if_neg c2]
        by_cases c : p < l ∧ f p = ch
        · have e : zSx f l ch (p, false) = (p + 1, false) := by unfold zSx; rw [if_neg (show ¬ false = true by decide), if_pos c]
          rw [if_pos c, e]
          exact ih (p + 1)
        · have e : zSx f l ch (p, false) = (p, true) := by unfold zSx; rw [if_neg (show ¬ false = true by decide), if_neg c]
          rw [if_neg c, e]
          exact ⟨zMr_w r p, fun h => by cases h⟩
end ZMR

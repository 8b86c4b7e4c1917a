/-! WHAT WAS READ -/
section ZOK
variable {l : Nat} {f : Nat → Int32}
theorem zPt_len {ch : Int32} {p q : Nat} {o : List Int32} (h : zPt f l ch p = some (q, o)) : o.length = (if ch = 78 ∨ ch = 68 then 1 else 0) := by
  unfold zPt at h
  by_cases c1 : ch = 78
  · rw [if_pos c1] at h
    rw [if_pos (Or.inl c1)]
    by_cases c : (zRn f l 3 p 0).1 = p
    · rw [if_pos c] at h; cases h
    · rw [if_neg c] at h
      have e := Option.some.inj h
      cases e; rfl
  · rw [if_neg c1] at h
    by_cases c2 : ch = 68
    · rw [if_pos c2] at h
      rw [if_pos (Or.inr c2)]
      by_cases c : (zRn f l 1 p 0).1 = p
      · rw [if_pos c] at h; cases h
      · rw [if_neg c] at h
        have e := Option.some.inj h
        cases e; rfl
    · rw [if_neg c2] at h
      rw [if_neg (fun q => q.elim c1 c2)]
      by_cases c : p < l ∧ f p = ch
      · rw [if_pos c] at h
        have e := Option.some.inj h
        cases e; rfl
      · rw [if_neg c] at h; cases h
theorem zFm_len : ∀ (r : List Int32) (p : Nat), (zFm f l r p).1 = true → (zFm f l r p).2.2.length = zNs r := by
  intro r
  induction r with
  | nil => intro p _; rfl
  | cons ch r ih =>
    intro p h
    rw [zFm_cons] at h ⊢
    cases e : zPt f l ch p with
    | none => rw [e] at h; cases h
    | some qo =>
      obtain ⟨q, o⟩ := qo
      rw [e] at h
      have g := ih q h
      show (o ++ (zFm f l r q).2.2).length = (if ch = 78 ∨ ch = 68 then 1 else 0) + zNs r
      rw [List.length_append, zPt_len e, g]
theorem zAy_ns : ∀ k, k < 9 → zNs (zCs k 0 (jFl k)) = zAy k := by decide +kernel
theorem zRd_ar {k p : Nat} (hk : k < 10) (h : (zRd f l k p).1 = true) : zAy k ≤ (zRd f l k p).2.2.length := by
  unfold zRd at h ⊢
  by_cases c : k = 9
  · rw [if_pos c] at h ⊢
    by_cases z : (zFm f l (zCs k 0 (jFl k)) p).1 = true
    · rw [if_pos z] at h ⊢
      subst c
      unfold zOd at h ⊢
      by_cases c32 : (zFm f l (zCs 9 0 (jFl 9)) p).2.1 < l ∧ f (zFm f l (zCs 9 0 (jFl 9)) p).2.1 = 32
      · rw [if_pos c32] at h ⊢
        by_cases cn : (zRn f l 3 ((zFm f l (zCs 9 0 (jFl 9)) p).2.1 + 1) 0).1 = (zFm f l (zCs 9 0 (jFl 9)) p).2.1 + 1
        · rw [if_pos cn] at h; cases h
        · rw [if_neg cn]; exact Nat.le_refl _
      · rw [if_neg c32]; exact Nat.le_refl _
    · rw [if_neg z] at h
      exact absurd h z
  · rw [if_neg c] at h ⊢
    rw [zFm_len _ _ h, zAy_ns k (by omega)]
    exact Nat.le_refl _
theorem zSc_ok : ∀ (d p : Nat), ∀ q ∈ (zSc f l d p).2, q.1 < 10 ∧ zAy q.1 ≤ q.2.length := by
  intro d
  induction d with
  | zero => intro p q hq; cases hq
  | succ d ih =>
    intro p q hq
    unfold zSc at hq
    cases e : zFst f l p 0 10 with
    | none => rw [e] at hq; cases hq
    | some k =>
      have g := zFst_lt 10 0 e
      have ar := zRd_ar (f := f) (l := l) (p := p) (show k < 10 by omega) g.2.2
      rw [e] at hq
      dsimp only at hq
      by_cases c : (zRd f l k p).2.1 = l
      · rw [if_pos c] at hq
        rcases List.mem_cons.mp hq with rfl | hq
        · exact ⟨by omega, ar⟩
        · cases hq
      · rw [if_neg c] at hq
        by_cases c2 : f (zRd f l k p).2.1 = 59
        · rw [if_pos c2] at hq
          rcases List.mem_cons.mp hq with rfl | hq
          · exact ⟨by omega, ar⟩
          · exact ih _ q hq
        · rw [if_neg c2] at hq
          rcases List.mem_cons.mp hq with rfl | hq
          · exact ⟨by omega, ar⟩
          · cases hq
theorem zMx_le {p : Nat} (hp : p ≤ l) : ∀ (d j m : Nat), j + d ≤ 10 → m ≤ l → zMx f l p j d m ≤ l := by
  intro d
  induction d with
  | zero => intro j m _ h; exact h
  | succ d ih =>
    intro j m hj h
    unfold zMx
    have := (zRd_le (pt := f) (l := l) (k := j) (by omega) hp).2.1
    exact ih (j + 1) _ (by omega) (by omega)
theorem zSc_le : ∀ (d p e : Nat), p ≤ l → (zSc f l d p).1 = some e → e ≤ l := by
  intro d
  induction d with
  | zero =>
    intro p e hp h
    have h2 := Option.some.inj (show some p = some e from h)
    omega
  | succ d ih =>
    intro p e hp h
    unfold zSc at h
    cases z : zFst f l p 0 10 with
    | none =>
      rw [z] at h
      have h2 := Option.some.inj h
      rw [← h2]
      exact zMx_le hp 10 0 p (by omega) hp
    | some k =>
      have g := zFst_lt 10 0 z
      have le := zRd_le (pt := f) (l := l) (k := k) (p := p) (by omega) hp
      rw [z] at h
      dsimp only at h
      by_cases c : (zRd f l k p).2.1 = l
      · rw [if_pos c] at h; cases h
      · rw [if_neg c] at h
        by_cases c2 : f (zRd f l k p).2.1 = 59
        · rw [if_pos c2] at h
          exact ih _ e (by omega) h
        · rw [if_neg c2] at h
          have h2 := Option.some.inj h
          omega
end ZOK

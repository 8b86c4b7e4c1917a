/-! THE MODEL READS A SCRIPT -/
/-- the commands cs stand in the model's array from row c on -/
def zCk : Nat → List (Nat × List Int32) → (Nat → Int32) → Prop
  | _, [], _ => True
  | c, q :: cs, cm => (cm (6 * c) = nI q.1 ∧ ∀ x, x < q.2.length → cm (6 * c + 1 + x) = q.2.getD x 0) ∧ zCk (c + 1) cs cm
section ZML
variable {l : Nat} {f : Nat → Int32}
theorem zRd_min {k p : Nat} (hk : k < 10) (hp : p ≤ l) (h : (zRd f l k p).1 = true) : p + 3 ≤ (zRd f l k p).2.1 := by
  by_cases c : zPx f l (zWd k) p = zWl k
  · obtain ⟨-, -, -, -, -, w3, -, -⟩ := zW_facts k hk
    have pl := (zPx_le (f := f) (l := l) (zWd k) p).2.1 hp
    have ew := (zRd_word (f := f) (l := l) hk p).1 c
    have gl := zFm_le (pt := f) (l := l) (zWy k) (p + zWl k) (by omega)
    have lo := zOd_le (pt := f) (l := l) (p := (zFm f l (zCs k 0 (jFl k)) p).2.1) (by rw [ew]; exact gl.2.1)
    unfold zRd
    by_cases c9 : k = 9
    · rw [if_pos c9]
      by_cases z : (zFm f l (zCs k 0 (jFl k)) p).1 = true
      · rw [if_pos z]
        rw [ew] at lo ⊢
        omega
      · rw [if_neg z, ew]; omega
    · rw [if_neg c9, ew]; omega
  · exact absurd h (zRd_none hk c).1
theorem m_stop (cm : Nat → Int32) (n q w : Int32) {fu : Nat} (hf : 0 < fu) : f_X10_runScript_L34 f mL49 mB11 (nI l) fu 0 cm n q w = some (0, cm, n, q, w) := by
  obtain ⟨fu, rfl⟩ : ∃ g, fu = g + 1 := ⟨fu - 1, by omega⟩
  rw [f_X10_runScript_L34, if_pos rfl]
theorem m_readL (hl : l ≤ 60) : ∀ (d c p fu : Nat) (cm : Nat → Int32), c + d = 15 → d + 2 < fu → p ≤ l → 4 * c ≤ p →
    ∃ cm' n' q w, f_X10_runScript_L34 f mL49 mB11 (nI l) fu 1 cm (nI c) (nI p) 0 = some (0, cm', n', nI q, w) ∧ (∀ x, x < 6 * c → cm' x = cm x) ∧ ((zSc f l d p).1 = none → w = 0 ∧ n' = nI (c + (zSc f l d p).2.length) ∧ zCk c (zSc f l d p).2 cm') ∧ (∀ e, (zSc f l d p).1 = some e → w = 1 ∧ q = e) := by
  intro d
  induction d with
  | zero =>
    intro c p fu cm hc hf hp h4
    obtain ⟨fu, rfl⟩ : ∃ g, fu = g + 1 := ⟨fu - 1, by omega⟩
    obtain ⟨cm', n', e, u1, u2⟩ := m_readCommand (f := f) (c := c) cm hl hp (by omega)
    have pl : p = l := by omega
    have e1 : zFst f l p 0 10 = none := zFst_none 10 0 (fun k _ hk h => by
      have := zRd_min (by omega) hp h
      have := (zRd_le (pt := f) (k := k) (by omega) hp).2.1
      omega)
    have e2 : zMx f l p 0 10 p = p := zMx_const 10 0 p (Nat.le_refl _) (fun k _ hk => by
      have := (zRd_le (pt := f) (k := k) (by omega) hp).2.1
      omega) (Or.inl rfl)
    rw [e1, e2] at e
    rw [f_X10_runScript_L34, if_neg z_n10, e]
    dsimp only
    rw [z_bind]
    dsimp only
    rw [if_neg z_n10, m_stop _ _ _ _ (by omega)]
    exact ⟨cm', n', p, 1, rfl, u1, fun h => absurd (show some p = none from h) (Option.some_ne_none _), fun e h => ⟨rfl, Option.some.inj (show some p = some e from h)⟩⟩
  | succ d ih =>
    intro c p fu cm hc hf hp h4
    obtain ⟨fu, rfl⟩ : ∃ g, fu = g + 1 := ⟨fu - 1, by omega⟩
    obtain ⟨cm', n', e, u1, u2⟩ := m_readCommand (f := f) (c := c) cm hl hp (by omega)
    rw [f_X10_runScript_L34, if_neg z_n10, e]
    unfold zSc
    cases h : zFst f l p 0 10 with
    | none =>
      dsimp only
      rw [z_bind]
      dsimp only
      rw [if_neg z_n10, m_stop _ _ _ _ (by omega)]
      exact ⟨cm', n', _, 1, rfl, u1, fun h => absurd h (Option.some_ne_none _), fun e h => ⟨rfl, Option.some.inj h⟩⟩
    | some k =>
      have g := zFst_lt 10 0 h
      have le := zRd_le (pt := f) (k := k) (p := p) (by omega) hp
      have mn := zRd_min (k := k) (by omega) hp g.2.2
      have w := u2 k h
      dsimp only
      rw [z_bind]
      dsimp only
      rw [if_pos (show (0 : Int32) = 0 from rfl)]
      by_cases ce : (zRd f l k p).2.1 = l
      · rw [if_pos (show nI l ≤ nI (zRd f l k p).2.1 from nI_le (by omega) (by omega)), if_pos ce, m_stop _ _ _ _ (by omega)]
        exact ⟨cm', _, _, 0, rfl, u1, fun _ => ⟨rfl, rfl, w, trivial⟩, fun e h => absurd h.symm (Option.some_ne_none _)⟩
      · rw [if_neg (show ¬ nI l ≤ nI (zRd f l k p).2.1 from nI_ge (by omega) (by omega)), if_neg ce, x10_expects 59 (by decide) hl le.2.1, z_bind]
        by_cases cs : f (zRd f l k p).2.1 = 59
        · rw [if_pos (show (zRd f l k p).2.1 < l ∧ f (zRd f l k p).2.1 = 59 from ⟨by omega, cs⟩), if_pos cs]
          dsimp only
          rw [if_pos (show (0 : Int32) = 0 from rfl)]
          obtain ⟨cm2, n2, q, w2, q1, q2, q3, q4⟩ := ih (c + 1) ((zRd f l k p).2.1 + 1) fu cm' (by omega) (by omega) (by omega) (by omega)
          refine ⟨cm2, n2, q, w2, q1, fun x hx => by rw [q2 x (by omega), u1 x hx], fun hn => ?_, fun e he => q4 e he⟩
          obtain ⟨z0, z1, z2⟩ := q3 hn
          refine ⟨z0, by rw [z1]; exact congrArg nI (by show c + 1 + _ = c + (_ + 1); omega), ⟨by rw [q2 _ (by omega)]; exact w.1, fun x hx => ?_⟩, z2⟩
          have hx2 : x < (zRd f l k p).2.2.length := hx
          rw [q2 _ (by omega)]; exact w.2 x hx2
        · rw [if_neg (show ¬ ((zRd f l k p).2.1 < l ∧ f (zRd f l k p).2.1 = 59) from fun q => cs q.2), if_neg cs]
          dsimp only
          rw [if_neg z_n10, m_stop _ _ _ _ (by omega)]
          exact ⟨cm', _, _, 1, rfl, u1, fun h => absurd h (Option.some_ne_none _), fun e h => ⟨rfl, Option.some.inj h⟩⟩
end ZML

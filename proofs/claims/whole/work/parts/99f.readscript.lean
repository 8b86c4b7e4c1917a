/-! READING A SCRIPT: what the class does -/
def zSc (f : Nat → Int32) (l : Nat) : Nat → Nat → Option Nat × List (Nat × List Int32)
  | 0, p => (some p, [])
  | d + 1, p => match zFst f l p 0 10 with
    | none => (some (zMx f l p 0 10 p), [])
    | some k => if (zRd f l k p).2.1 = l then (none, [(k, (zRd f l k p).2.2)]) else if f (zRd f l k p).2.1 = 59 then ((zSc f l d ((zRd f l k p).2.1 + 1)).1, (k, (zRd f l k p).2.2) :: (zSc f l d ((zRd f l k p).2.1 + 1)).2) else (some (zRd f l k p).2.1, [(k, (zRd f l k p).2.2)])
/-- the commands cs stand in the class' arrays from row c on -/
def zCm : Nat → List (Nat × List Int32) → (Nat → Int32) → (Nat → Int32) → Prop
  | _, [], _, _ => True
  | c, q :: cs, pk, pa => (pk c = nI q.1 ∧ ∀ x, x < q.2.length → pa (5 * c + x) = q.2.getD x 0) ∧ zCm (c + 1) cs pk pa
theorem nI_m1 (d : Nat) : nI (d + 1) + (-1) = nI d := by
  rw [nI_succ, Int32.add_assoc, show (1 : Int32) + (-1) = 0 from by decide, Int32.add_zero]
section ZS
variable {l : Nat} {pt : Nat → Int32}
theorem zFst_lt {p k : Nat} : ∀ (d j : Nat), zFst pt l p j d = some k → j ≤ k ∧ k < j + d ∧ (zRd pt l k p).1 = true := by
  intro d
  induction d with
  | zero => intro j h; cases h
  | succ d ih =>
    intro j h
    unfold zFst at h
    by_cases z : (zRd pt l j p).1 = true
    · rw [if_pos z] at h
      cases h
      exact ⟨Nat.le_refl _, by omega, z⟩
    · rw [if_neg z] at h
      have := ih (j + 1) h
      exact ⟨by omega, by omega, this.2.2⟩
theorem x6_readL (hl : l ≤ 60) : ∀ (d c p fu : Nat) (pk pa : Nat → Int32) (pn : Int32), c + d = 15 → d < fu → p ≤ l →
    ∃ (at' : Int32) (n' : Nat) (pk' pa' : Nat → Int32) (pn' : Int32), Option.bind (f_X6_read_L13 pt (nI l) fu (nI d) (nI p) (nI c) pk pa pn) (fun o5 => Sum.elim (fun r => some r) (fun s6 => some (s6.2.1, s6.2.1, s6.2.2.1, s6.2.2.2.1, s6.2.2.2.2.1, s6.2.2.2.2.2)) o5) = some ((match (zSc pt l d p).1 with | none => -1 | some e => nI e), at', nI n', pk', pa', pn') ∧ (∀ x, x < c → pk' x = pk x) ∧ (∀ x, x < 5 * c → pa' x = pa x) ∧ n' ≤ 15 ∧ ((zSc pt l d p).1 = none → n' = c + (zSc pt l d p).2.length ∧ zCm c (zSc pt l d p).2 pk' pa') := by
  intro d
  induction d with
  | zero =>
    intro c p fu pk pa pn hc hf hp
    obtain ⟨fu, rfl⟩ : ∃ f, fu = f + 1 := ⟨fu - 1, by omega⟩
    unfold f_X6_read_L13
    rw [if_pos (show nI 0 ≤ 0 by decide)]
    exact ⟨_, c, pk, pa, pn, rfl, fun _ _ => rfl, fun _ _ => rfl, by omega, fun h => by cases h⟩
  | succ d ih =>
    intro c p fu pk pa pn hc hf hp
    obtain ⟨fu, rfl⟩ : ∃ f, fu = f + 1 := ⟨fu - 1, by omega⟩
    obtain ⟨pa1, pn1, e, u1, u2⟩ := x6_readCommand (pt := pt) (c := c) pk pa pn hl (by omega) hp
    unfold f_X6_read_L13 zSc
    rw [if_neg (nI_nle (by omega) (by omega)), e]
    cases h : zFst pt l p 0 10 with
    | none =>
      dsimp only
      rw [z_bind]
      dsimp only
      rw [if_pos rfl]
      exact ⟨_, c, pk, pa1, pn1, rfl, fun _ _ => rfl, fun x hx => u1 x (by omega), by omega, fun h => by cases h⟩
    | some k =>
      have g := zFst_lt 10 0 h
      have le := zRd_le (pt := pt) (k := k) (p := p) (by omega) hp
      have w := u2 k h
      dsimp only
      rw [z_bind]
      dsimp only
      rw [if_neg (by decide)]
      have wk : upd pk c (nI k) c = nI k := by unfold upd; rw [if_pos rfl]
      have wx : ∀ x, x < c → upd pk c (nI k) x = pk x := fun x hx => by unfold upd; rw [if_neg (by omega)]
      by_cases ce : (zRd pt l k p).2.1 = l
      · rw [if_pos (show nI (zRd pt l k p).2.1 = nI l by rw [ce]), if_pos ce, nI_1]
        exact ⟨_, c + 1, _, pa1, pn1, rfl, wx, fun x hx => u1 x (by omega), by omega, fun _ => ⟨rfl, ⟨wk, w⟩, trivial⟩⟩
      · rw [if_neg (show ¬ nI (zRd pt l k p).2.1 = nI l from fun q => ce ((nI_eq (by omega) (by omega)).mp q)), if_neg ce, x6_readCharacter 59 hl le.2.1, z_bind]
        by_cases cs : pt (zRd pt l k p).2.1 = 59
        · rw [if_pos (show (zRd pt l k p).2.1 < l ∧ pt (zRd pt l k p).2.1 = 59 from ⟨by omega, cs⟩), if_pos cs]
          dsimp only
          rw [if_neg (by decide), nI_1, nI_m1]
          obtain ⟨at', n', pk', pa', pn', q1, q2, q3, q5, q4⟩ := ih (c + 1) ((zRd pt l k p).2.1 + 1) fu (upd pk c (nI k)) pa1 pn1 (by omega) (by omega) (by omega)
          refine ⟨at', n', pk', pa', pn', q1, fun x hx => by rw [q2 x (by omega), wx x hx], fun x hx => by rw [q3 x (by omega), u1 x (by omega)], q5, fun hn => ?_⟩
          obtain ⟨z1, z2⟩ := q4 hn
          refine ⟨by rw [z1]; show c + 1 + _ = c + (_ + 1); omega, ⟨by rw [q2 c (by omega)]; exact wk, fun x hx => by have hx2 : x < (zRd pt l k p).2.2.length := hx; rw [q3 _ (by omega)]; exact w x hx⟩, z2⟩
        · rw [if_neg (show ¬ ((zRd pt l k p).2.1 < l ∧ pt (zRd pt l k p).2.1 = 59) from fun q => cs q.2), if_neg cs]
          dsimp only
          rw [if_pos rfl, nI_1]
          exact ⟨_, c + 1, _, pa1, pn1, rfl, wx, fun x hx => u1 x (by omega), by omega, fun h => by cases h⟩
theorem x6_read (hl : l ≤ 60) (at0 ct : Int32) (pk pa : Nat → Int32) (pn : Int32) : ∃ (at' : Int32) (n' : Nat) (pk' pa' : Nat → Int32) (pn' : Int32), f_X6_read pt (nI l) at0 ct pk pa pn = some ((match (zSc pt l 15 0).1 with | none => -1 | some e => nI e), at', nI n', pk', pa', pn') ∧ n' ≤ 15 ∧ ((zSc pt l 15 0).1 = none → n' = (zSc pt l 15 0).2.length ∧ zCm 0 (zSc pt l 15 0).2 pk' pa') := by
  obtain ⟨at', n', pk', pa', pn', q1, -, -, q5, q4⟩ := x6_readL (pt := pt) hl 15 0 0 jFU pk pa pn rfl (pz_jFU (by omega)) (Nat.zero_le _)
  refine ⟨at', n', pk', pa', pn', q1, q5, fun h => ?_⟩
  have := q4 h
  rw [Nat.zero_add] at this
  exact this
end ZS

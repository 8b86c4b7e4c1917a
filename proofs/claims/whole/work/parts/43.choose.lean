/-! PURE: who gets which hammer when the most grants are made -/
theorem zMin_cong {f q : Nat} {mk : Nat → Nat} {lf lf' : Nat → Bool} {G : Nat} (h : ∀ k, k < 12 → (∃ r, r < q ∧ (mk r).testBit k = true) → lf k = lf' k) (z : zMin f q mk lf G) : zMin f q mk lf' G := by
  have e : ∀ S, zVal f q mk lf S = zVal f q mk lf' S := by
    intro S
    unfold zVal
    congr 1
    refine fb_ct_cong (fun k hk => ?_)
    cases c : (zNear mk S q).testBit k
    · rfl
    · obtain ⟨y, a, _, b⟩ := (zNear_bit mk S k q).mp c
      rw [h k hk ⟨y, a, b⟩]
  obtain ⟨a, S, b, c⟩ := z
  exact ⟨fun S hS => by rw [← e]; exact a S hS, S, b, by rw [← e]; exact c⟩
theorem zVal_less {r q : Nat} {mk : Nat → Nat} {lf lf' : Nat → Bool} (hr : r < q) (hl : ∀ k, lf' k = true → lf k = true) (S : Nat → Bool) : zVal (r + 1) q mk lf' (fun x => S x && !decide (x = r)) + (if S r = true then 0 else 1) ≤ zVal r q mk lf S := by
  unfold zVal
  dsimp only
  have a := fb_ct_upd (fun x => decide (r ≤ x) && !S x) false hr
  rw [if_neg (show ¬ false = true by decide)] at a
  have b : fb_ct (fun x => decide (r + 1 ≤ x) && !(S x && !decide (x = r))) q = fb_ct (fun k => if k = r then false else (decide (r ≤ k) && !S k)) q := by
    refine fb_ct_cong (fun x hx => ?_)
    by_cases c : x = r
    · subst c; simp
    · rw [if_neg c]
      have : decide (r + 1 ≤ x) = decide (r ≤ x) := by
        by_cases z : r ≤ x
        · have : r + 1 ≤ x := by omega
          simp [z, this]
        · have : ¬ r + 1 ≤ x := by omega
          simp [z, this]
      rw [this]; simp [c]
  have d : fb_ct (fun h => (zNear mk (fun x => S x && !decide (x = r)) q).testBit h && lf' h) 12 ≤ fb_ct (fun h => (zNear mk S q).testBit h && lf h) 12 := fb_ct_sub (fun k hk h => by
    rw [Bool.and_eq_true] at h ⊢
    obtain ⟨y, y1, y2, y3⟩ := (zNear_bit mk _ k q).mp h.1
    rw [Bool.and_eq_true] at y2
    exact ⟨(zNear_bit mk S k q).mpr ⟨y, y1, y2.1, y3⟩, hl k h.2⟩)
  have e : (if (decide (r ≤ r) && !S r) = true then 1 else 0) = (if S r = true then 0 else 1) := by
    cases S r <;> simp
  rw [e] at a
  omega
theorem zMin_skip {r q : Nat} {mk : Nat → Nat} {lf : Nat → Bool} {G G' : Nat} (hr : r < q) (z : zMin r q mk lf G) (z' : zMin (r + 1) q mk lf G') : G' ≤ G := by
  obtain ⟨_, S, b, c⟩ := z
  have a := z'.1 (fun x => S x && !decide (x = r)) (fun x hx => by
    rw [Bool.and_eq_true] at hx
    have := b x hx.1
    have n : x ≠ r := by intro e; rw [e] at hx; simp at hx
    omega)
  have := zVal_less (lf := lf) (lf' := lf) (mk := mk) hr (fun _ h => h) S
  omega
theorem zMin_take {r q h : Nat} {mk : Nat → Nat} {lf lf' : Nat → Bool} {G G' : Nat} (hr : r < q) (hh : h < 12) (hm : (mk r).testBit h = true) (hlh : lf h = true) (hl : ∀ k, lf' k = (lf k && !decide (k = h))) (z : zMin r q mk lf G) (z' : zMin (r + 1) q mk lf' G') : G' + 1 ≤ G := by
  obtain ⟨_, S, b, c⟩ := z
  have a := z'.1 (fun x => S x && !decide (x = r)) (fun x hx => by
    rw [Bool.and_eq_true] at hx
    have := b x hx.1
    have n : x ≠ r := by intro e; rw [e] at hx; simp at hx
    omega)
  by_cases s : S r = true
  · have l := zVal_less (lf := lf) (lf' := lf') (mk := mk) hr (fun k e => by rw [hl, Bool.and_eq_true] at e; exact e.1) S
    rw [if_pos s] at l
    -- the hammer h counts on the left side of G alone
    have nb : (zNear mk S q).testBit h = true := (zNear_bit mk S h q).mpr ⟨r, hr, s, hm⟩
    have u := fb_ct_upd (fun k => (zNear mk S q).testBit k && lf k) false hh
    rw [if_neg (show ¬ false = true by decide), if_pos (by rw [nb, hlh]; rfl)] at u
    have d : fb_ct (fun k => (zNear mk (fun x => S x && !decide (x = r)) q).testBit k && lf' k) 12 ≤ fb_ct (fun k => if k = h then false else ((zNear mk S q).testBit k && lf k)) 12 := fb_ct_sub (fun k hk e => by
      rw [Bool.and_eq_true, hl, Bool.and_eq_true] at e
      have n : k ≠ h := by intro q; rw [q] at e; simp at e
      rw [if_neg n, Bool.and_eq_true]
      obtain ⟨y, y1, y2, y3⟩ := (zNear_bit mk _ k q).mp e.1
      rw [Bool.and_eq_true] at y2
      exact ⟨(zNear_bit mk S k q).mpr ⟨y, y1, y2.1, y3⟩, e.2.1⟩)
    have x1 : fb_ct (fun x => decide (r + 1 ≤ x) && !(S x && !decide (x = r))) q ≤ fb_ct (fun x => decide (r ≤ x) && !S x) q := fb_ct_sub (fun x hx e => by
      rw [Bool.and_eq_true, decide_eq_true_eq] at e
      have n : x ≠ r := by omega
      rw [Bool.and_eq_true, decide_eq_true_eq]
      refine ⟨by omega, ?_⟩
      have := e.2
      simp [n] at this
      simp [this])
    rw [c]
    unfold zVal at a ⊢
    dsimp only at a ⊢
    omega
  · have l := zVal_less (lf := lf) (lf' := lf') (mk := mk) hr (fun k e => by rw [hl, Bool.and_eq_true] at e; exact e.1) S
    rw [if_neg s] at l
    omega
/-- the most grants of the requests from f on with the hammers u -/
noncomputable def zGf (f q : Nat) (mk : Nat → Nat) (u : Nat) : Nat := Classical.epsilon (fun G => zMin f q mk (fun h => u.testBit h) G)
theorem zGf_eq {f q u G : Nat} {mk : Nat → Nat} (h : zMin f q mk (fun h => u.testBit h) G) : zGf f q mk u = G := zMin_one (Classical.epsilon_spec (p := fun G => zMin f q mk (fun h => u.testBit h) G) ⟨G, h⟩) h
theorem zGf_min {f q u : Nat} {mk : Nat → Nat} (hq : q ≤ 8) (hmk : ∀ r, r < q → mk r < 4096) (hu : u < 4096) (hf : f ≤ q) : zMin f q mk (fun h => u.testBit h) (zGf f q mk u) ∧ zGf f q mk u ≤ 8 := by
  obtain ⟨G, _, _, _, m, g8⟩ := x4_greatestFrom (gf := fun r => nI (mk r)) (fun _ => 0) 0 hq (fun _ _ => rfl) hmk hu hf
  rw [zGf_eq m]; exact ⟨m, g8⟩
/-- the hammer that a request gets: the first that keeps the most, or 12 -/
noncomputable def zSel (all q : Nat) (mk : Nat → Nat) (r g u : Nat) : Nat := pzf (fun h => (mk r).testBit h && u.testBit h && decide (g + 1 + zGf (r + 1) q mk (zCl u h) = all)) 12
noncomputable def zCh (all q : Nat) (mk : Nat → Nat) : Nat → Nat × Nat × (Nat → Nat)
  | 0 => (0, 4095, fun _ => 12)
  | r + 1 => if zSel all q mk r (zCh all q mk r).1 (zCh all q mk r).2.1 < 12 then ((zCh all q mk r).1 + 1, zCl (zCh all q mk r).2.1 (zSel all q mk r (zCh all q mk r).1 (zCh all q mk r).2.1), va_up (zCh all q mk r).2.2 r (zSel all q mk r (zCh all q mk r).1 (zCh all q mk r).2.1)) else (zCh all q mk r).1 |> fun a => (a, (zCh all q mk r).2.1, (zCh all q mk r).2.2)
theorem zCh_inv {all q : Nat} {mk : Nat → Nat} (hq : q ≤ 8) (hmk : ∀ r, r < q → mk r < 4096) (hall : all = zGf 0 q mk 4095) : ∀ r, r ≤ q → (zCh all q mk r).2.1 < 4096 ∧ (zCh all q mk r).1 + zGf r q mk (zCh all q mk r).2.1 ≤ all ∧ (zCh all q mk r).1 ≤ r ∧ (∀ x, r ≤ x → (zCh all q mk r).2.2 x = 12) ∧ ∀ x, x < q → (zCh all q mk r).2.2 x < 12 → (mk x).testBit ((zCh all q mk r).2.2 x) = true := by
  intro r
  induction r with
  | zero =>
    intro _
    refine ⟨by show (4095 : Nat) < 4096; omega, ?_, Nat.le_refl _, fun x _ => rfl, fun x _ h => ?_⟩
    · show 0 + zGf 0 q mk 4095 ≤ all; omega
    · exact absurd h (by show ¬ 12 < 12; omega)
  | succ r ih =>
    intro hr
    obtain ⟨i1, i2, i3, i4, i5⟩ := ih (by omega)
    have m0 := (zGf_min hq hmk i1 (show r ≤ q by omega)).1
    unfold zCh
    by_cases c : zSel all q mk r (zCh all q mk r).1 (zCh all q mk r).2.1 < 12
    · rw [if_pos c]
      have y := pzf_yes (p := fun h => (mk r).testBit h && (zCh all q mk r).2.1.testBit h && decide ((zCh all q mk r).1 + 1 + zGf (r + 1) q mk (zCl (zCh all q mk r).2.1 h) = all)) c
      simp only [Bool.and_eq_true, decide_eq_true_eq] at y
      refine ⟨zCl_lt (n := 12) i1, ?_, ?_, ?_, ?_⟩
      · have := y.2; show (zCh all q mk r).1 + 1 + zGf (r + 1) q mk (zCl _ (zSel _ _ _ _ _ _)) ≤ all
        unfold zSel
        omega
      · show (zCh all q mk r).1 + 1 ≤ r + 1; omega
      · intro x hx
        show va_up _ r _ x = 12
        rw [va_upn _ (by omega)]; exact i4 x (by omega)
      · intro x hx h12
        show (mk x).testBit (va_up _ r _ x) = true
        have h12' : va_up (zCh all q mk r).2.2 r (zSel all q mk r (zCh all q mk r).1 (zCh all q mk r).2.1) x < 12 := h12
        by_cases e : x = r
        · subst e; rw [va_ups]; exact y.1.1
        · rw [va_upn _ e] at h12' ⊢; exact i5 x hx h12'
    · rw [if_neg c]
      have m1 := (zGf_min hq hmk i1 (show r + 1 ≤ q by omega)).1
      have := zMin_skip (by omega) m0 m1
      refine ⟨i1, ?_, ?_, fun x hx => i4 x (by omega), i5⟩
      · show (zCh all q mk r).1 + zGf (r + 1) q mk (zCh all q mk r).2.1 ≤ all; omega
      · show (zCh all q mk r).1 ≤ r + 1; omega
theorem x4_firstThatKeeps {all q r g u : Nat} {mk : Nat → Nat} {gf : Nat → Int32} (hold : Nat → Int32) (un : Int32) (hq : q ≤ 8) (hgf : ∀ r, r < q → gf r = nI (mk r)) (hmk : ∀ r, r < q → mk r < 4096) (hu : u < 4096) (hr : r < q) (hall : all ≤ 8) (hg : g + zGf r q mk u ≤ all) : ∃ hold' un', f_X4_firstThatKeeps (nI q) gf hold un (nI all - nI g) (nI r) (nI u) = some (zO 12 (zSel all q mk r g u), hold', un') := by
  have key := pzC (F := fun fu x (s : (Nat → Int32) × Int32) => f_X4_firstThatKeeps_L3 (nI q) gf (nI all - nI g) (nI r) (nI u) fu x s.1 s.2) (n := 12)
    (I := fun k _ => ∀ j, j < k → ((mk r).testBit j && u.testBit j && decide (g + 1 + zGf (r + 1) q mk (zCl u j) = all)) = false)
    (Q := fun o => ∃ hold' un', (zSel all q mk r g u = 12 ∧ o = some (.inr (nI 12, hold', un'))) ∨ (zSel all q mk r g u < 12 ∧ o = some (.inl (nI (zSel all q mk r g u), hold', un'))))
    (fun fu s hI => by
      refine ⟨s.1, s.2, Or.inl ⟨pzf_none.mpr hI, ?_⟩⟩
      show f_X4_firstThatKeeps_L3 (nI q) gf (nI all - nI g) (nI r) (nI u) (fu + 1) (nI 12) s.1 s.2 = _
      rw [f_X4_firstThatKeeps_L3, if_pos (by decide)])
    (fun fu k s hk hI => by
      obtain ⟨s1, s2⟩ := s
      show (∃ hold' un', (_ ∧ f_X4_firstThatKeeps_L3 (nI q) gf (nI all - nI g) (nI r) (nI u) (fu + 1) (nI k) s1 s2 = _) ∨ (_ ∧ f_X4_firstThatKeeps_L3 (nI q) gf (nI all - nI g) (nI r) (nI u) (fu + 1) (nI k) s1 s2 = _)) ∨ ∃ s' : (Nat → Int32) × Int32, _ ∧ f_X4_firstThatKeeps_L3 (nI q) gf (nI all - nI g) (nI r) (nI u) (fu + 1) (nI k) s1 s2 = f_X4_firstThatKeeps_L3 (nI q) gf (nI all - nI g) (nI r) (nI u) fu (nI (k + 1)) s'.1 s'.2
      rw [f_X4_firstThatKeeps_L3, if_neg (show ¬ (12 : Int32) ≤ nI k from nI_ge (b := 12) hk (by omega)), if_pos (show jin (nI r) 8 = true by rw [z_jin (by omega)]; simp; omega), z_cl (show r < 2147483648 by omega), hgf r hr, fa_and, z_one k (by omega)]
      simp only [z_and0 (show k < 31 by omega), Nat.testBit_and]
      by_cases c : ((mk r).testBit k && u.testBit k) = false
      · rw [if_pos c, nI_1]
        refine Or.inr ⟨(s1, s2), fun j hj => ?_, rfl⟩
        rcases Nat.lt_or_ge j k with a | a
        · exact hI j a
        · obtain rfl : j = k := by omega
          rw [c]; rfl
      · rw [if_neg c, nI_1, z_clr]
        have c' : ((mk r).testBit k && u.testBit k) = true := by simpa using c
        have c2 := c'
        rw [Bool.and_eq_true] at c2
        obtain ⟨G, hold', un', e1, e2, e3⟩ := x4_greatestFrom s1 s2 hq hgf hmk (zCl_lt (n := 12) (k := k) hu) (show r + 1 ≤ q by omega)
        have eG := zGf_eq e2
        have tk := zMin_take hr hk c2.1 c2.2 (fun j => zCl_bit u k j) (zGf_min hq hmk hu (show r ≤ q by omega)).1 e2
        rw [e1, z_bind, z_ladd, pk_sub (show g ≤ all by omega)]
        simp only [z_lt (show 1 + G < 2147483648 by omega) (show all - g < 2147483648 by omega)]
        by_cases d : 1 + G < all - g
        · rw [if_pos d, nI_1]
          refine Or.inr ⟨(hold', un'), fun j hj => ?_, rfl⟩
          rcases Nat.lt_or_ge j k with a | a
          · exact hI j a
          · obtain rfl : j = k := by omega
            rw [c', eG]; simp; omega
        · rw [if_neg d]
          have es : zSel all q mk r g u = k := by
            unfold zSel
            exact pzf_eq hk (by rw [c', eG]; simp; omega) hI
          exact Or.inl ⟨hold', un', Or.inr ⟨by omega, by rw [es]⟩⟩)
    12 0 (hold, un) jFU rfl (pz_jFU (by omega)) (fun j hj => by omega)
  obtain ⟨hold', un', k⟩ := key
  refine ⟨hold', un', ?_⟩
  unfold f_X4_firstThatKeeps
  rcases k with ⟨a, b⟩ | ⟨a, b⟩
  · have b' : f_X4_firstThatKeeps_L3 (nI q) gf (nI all - nI g) (nI r) (nI u) jFU 0 hold un = some (.inr (nI 12, hold', un')) := b
    rw [b', z_bind, a]; rfl
  · have b' : f_X4_firstThatKeeps_L3 (nI q) gf (nI all - nI g) (nI r) (nI u) jFU 0 hold un = some (.inl (nI (zSel all q mk r g u), hold', un')) := b
    rw [b', z_bind]
    unfold zO
    rw [if_pos a]; rfl
theorem x4_choose {q : Nat} {mk : Nat → Nat} {gf : Nat → Int32} (hold : Nat → Int32) (ch0 : Nat → Int32) (un : Int32) (hq : q ≤ 8) (hgf : ∀ r, r < q → gf r = nI (mk r)) (hmk : ∀ r, r < q → mk r < 4096) : ∃ hold' ch un', f_X4_choose (nI q) gf hold ch0 un = some (nI (zCh (zGf 0 q mk 4095) q mk q).1, hold', ch, un') ∧ ∀ r, r < q → ch r = zO 12 ((zCh (zGf 0 q mk 4095) q mk q).2.2 r) := by
  obtain ⟨G, hold1, un1, e1, m1, g8⟩ := x4_greatestFrom hold un hq hgf hmk (show 4095 < 4096 by omega) (Nat.zero_le q)
  have eG := zGf_eq m1
  obtain ⟨c1, e2, hc1⟩ := j7_fill (n := 8) ch0 (-1) (by omega)
  obtain ⟨s, hs, e3⟩ := pzG (F := fun fu x (s : Int32 × Int32 × (Nat → Int32) × (Nat → Int32) × Int32) => f_X4_choose_L22 (nI q) gf (nI G) fu x s.1 s.2.1 s.2.2.1 s.2.2.2.1 s.2.2.2.2) (n := q)
    (fun k s => s.1 = nI (zCh G q mk k).1 ∧ s.2.1 = nI (zCh G q mk k).2.1 ∧ ∀ r, r < q → s.2.2.2.1 r = zO 12 ((zCh G q mk k).2.2 r))
    (fun fu s _ => by
      show f_X4_choose_L22 (nI q) gf (nI G) (fu + 1) (nI q) s.1 s.2.1 s.2.2.1 s.2.2.2.1 s.2.2.2.2 = _
      rw [f_X4_choose_L22, if_pos (nI_le (Nat.le_refl _) (by omega))])
    (fun fu k s hk hs => by
      obtain ⟨s1, s2, s3, s4, s5⟩ := s
      obtain ⟨h1, h2, h3⟩ := hs
      simp only at h1 h2 h3
      subst h1 h2
      obtain ⟨i1, i2, i3, i4, i5⟩ := zCh_inv hq hmk eG.symm k (by omega)
      obtain ⟨hold', un', ek⟩ := x4_firstThatKeeps s3 s5 hq hgf hmk i1 hk g8 i2
      show ∃ s' : Int32 × Int32 × (Nat → Int32) × (Nat → Int32) × Int32, _ ∧ f_X4_choose_L22 (nI q) gf (nI G) (fu + 1) (nI k) (nI (zCh G q mk k).1) (nI (zCh G q mk k).2.1) s3 s4 s5 = f_X4_choose_L22 (nI q) gf (nI G) fu (nI (k + 1)) s'.1 s'.2.1 s'.2.2.1 s'.2.2.2.1 s'.2.2.2.2
      rw [f_X4_choose_L22, if_neg (nI_ge hk (by omega)), ek, z_bind]
      by_cases c : zSel G q mk k (zCh G q mk k).1 (zCh G q mk k).2.1 < 12
      · have e : zO 12 (zSel G q mk k (zCh G q mk k).1 (zCh G q mk k).2.1) = nI (zSel G q mk k (zCh G q mk k).1 (zCh G q mk k).2.1) := by unfold zO; rw [if_pos c]
        dsimp only
        rw [e, if_neg (show ¬ nI (zSel G q mk k (zCh G q mk k).1 (zCh G q mk k).2.1) = -1 by rw [z_m1 (by omega)]; exact id), if_pos (show jin (nI k) 8 = true by rw [z_jin (by omega)]; simp; omega), z_one _ (by omega), z_clr, z_cl (by omega), nI_1, nI_1]
        refine ⟨(_, _, _, _, _), ⟨?_, ?_, fun r hr => ?_⟩, rfl⟩
        · show nI ((zCh G q mk k).1 + 1) = nI (zCh G q mk (k + 1)).1
          rw [zCh, if_pos c]
        · show nI (zCl _ _) = nI (zCh G q mk (k + 1)).2.1
          rw [zCh, if_pos c]
        · show upd s4 k (nI _) r = zO 12 ((zCh G q mk (k + 1)).2.2 r)
          rw [zCh, if_pos c]
          by_cases e9 : r = k
          · rw [e9, z_upds]; show _ = zO 12 (va_up _ k _ k); rw [va_ups, e]
          · rw [z_updn _ e9]; show _ = zO 12 (va_up _ k _ r); rw [va_upn _ e9]; exact h3 r hr
      · have e : zO 12 (zSel G q mk k (zCh G q mk k).1 (zCh G q mk k).2.1) = -1 := by unfold zO; rw [if_neg c]
        dsimp only
        rw [e, if_pos rfl, nI_1]
        refine ⟨(nI (zCh G q mk k).1, nI (zCh G q mk k).2.1, _, _, _), ⟨?_, ?_, fun r hr => ?_⟩, rfl⟩
        · show nI (zCh G q mk k).1 = nI (zCh G q mk (k + 1)).1
          rw [zCh, if_neg c]
        · show nI (zCh G q mk k).2.1 = nI (zCh G q mk (k + 1)).2.1
          rw [zCh, if_neg c]
        · show s4 r = zO 12 ((zCh G q mk (k + 1)).2.2 r)
          rw [zCh, if_neg c]; exact h3 r hr)
    (nI 0, nI 4095, hold1, c1, un1) jFU (pz_jFU (by omega)) ⟨rfl, rfl, fun r hr => by show c1 r = _; rw [hc1 r (by omega)]; rfl⟩
  obtain ⟨s1, s2, s3, s4, s5⟩ := s
  obtain ⟨h1, h2, h3⟩ := hs
  simp only at h1 h2 h3
  have e3' : f_X4_choose_L22 (nI q) gf (nI G) jFU 0 0 4095 hold1 c1 un1 = some (nI q, s1, s2, s3, s4, s5) := e3
  refine ⟨s3, s4, s5, ?_, fun r hr => by rw [eG]; exact h3 r hr⟩
  unfold f_X4_choose f_X4_greatest
  rw [show f_X4_greatestFrom (nI q) gf hold un 0 4095 = f_X4_greatestFrom (nI q) gf hold un (nI 0) (nI 4095) from rfl, e1]
  simp only [z_bind]
  rw [e2, z_bind, e3', z_bind, eG, h1]

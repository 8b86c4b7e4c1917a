/-! PURE: sets as masks; the search for grants -/
theorem z_sl : ∀ n, n < 32 → ((nI n &&& 31).toBitVec.smod 32).toNat = n := by decide +kernel
theorem z_one (k : Nat) (hk : k < 31) : (1 : Int32) <<< (nI k &&& 31) = nI (2 ^ k) := by
  have := pk_shlN (n := 1) (nI k &&& 31) k (z_sl k (by omega)) (by rw [Nat.one_mul]; exact Nat.lt_of_lt_of_le (Nat.pow_lt_pow_right (by omega) hk) (by decide))
  rw [Nat.one_mul] at this
  exact this
theorem z_andn (x y : Int32) : x &&& (y ^^^ (-1)) = x ^^^ (x &&& y) := by
  apply Int32.toBitVec_inj.1
  show x.toBitVec &&& (y.toBitVec ^^^ (-1 : Int32).toBitVec) = x.toBitVec ^^^ (x.toBitVec &&& y.toBitVec)
  have e : (-1 : Int32).toBitVec = BitVec.allOnes 32 := by decide
  rw [e]
  apply BitVec.eq_of_getLsbD_eq
  intro i hi
  simp only [BitVec.getLsbD_and, BitVec.getLsbD_xor, BitVec.getLsbD_allOnes, hi, decide_true]
  cases x.toBitVec.getLsbD i <;> cases y.toBitVec.getLsbD i <;> rfl
/-- a set without one -/
def zCl (a k : Nat) : Nat := a ^^^ (a &&& 2 ^ k)
theorem z_clr (a k : Nat) : nI a &&& (nI (2 ^ k) ^^^ (-1)) = nI (zCl a k) := by
  rw [z_andn, fa_and, fb_xorI]; rfl
theorem zCl_bit (a k i : Nat) : (zCl a k).testBit i = (a.testBit i && !decide (i = k)) := by
  unfold zCl
  rw [Nat.testBit_xor, Nat.testBit_and, Nat.testBit_two_pow]
  by_cases c : i = k
  · subst c; cases a.testBit i <;> simp
  · have : ¬ k = i := fun e => c e.symm
    cases a.testBit i <;> simp [c, this]
theorem zCl_lt {a k n : Nat} (h : a < 2 ^ n) : zCl a k < 2 ^ n := by
  unfold zCl
  exact Nat.xor_lt_two_pow h (Nat.lt_of_le_of_lt Nat.and_le_left h)
theorem z_and0 {a k : Nat} (hk : k < 31) : (nI a &&& nI (2 ^ k) = 0) = (a.testBit k = false) := propext (fa_bit hk)
theorem z_bit1 {a k : Nat} (ha : a < 2147483648) (hk : k < 31) : ((nI a >>> (nI k &&& 31)) &&& 1 = 1) = (a.testBit k = true) := by
  rw [pk_shrN ha (nI k &&& 31) k (z_sl k (by omega))]
  have := fa_mask (a / 2 ^ k) 1
  rw [show nI (2 ^ 1 - 1) = (1 : Int32) from rfl] at this
  have lt : a / 2 ^ k % 2 < 2 := Nat.mod_lt _ (by omega)
  rw [this, show (1 : Int32) = nI 1 from rfl, z_eq (by omega) (by omega), Nat.testBit_eq_decide_div_mod_eq, decide_eq_true_eq]
theorem zm1_ne {x : Nat} (hx : x < 1000) : nI x ≠ -1 := by
  intro h
  have := z_m1 (a := x) (by omega)
  rw [this] at h
  exact h
/-- what a try to give r a hammer leaves; z: the hammer that r has (12: none); lf: hammers that may be used -/
def zOk (q : Nat) (mk : Nat → Nat) (lf : Nat → Bool) (hold : Nat → Int32) : Prop :=
  (∀ h, h < 12 → hold h = -1 ∨ ∃ x, x < q ∧ hold h = nI x) ∧ (∀ h x, h < 12 → x < 8 → hold h = nI x → (mk x).testBit h = true ∧ lf h = true)
def zInj (hold : Nat → Int32) (z : Nat) : Prop := ∀ h1 h2 x, h1 < 12 → h2 < 12 → x < 8 → h1 ≠ z → h2 ≠ z → hold h1 = nI x → hold h2 = nI x → h1 = h2
def zHas (hold : Nat → Int32) (z x : Nat) : Prop := ∃ h, h < 12 ∧ h ≠ z ∧ hold h = nI x
/-- requests whose hammers are all held by requests among them -/
def zShut (q : Nat) (mk : Nat → Nat) (lf : Nat → Bool) (hold : Nat → Int32) (S : Nat → Prop) : Prop :=
  ∀ y, y < q → S y → ∀ h, h < 12 → (mk y).testBit h = true → lf h = true → ∃ x, x < q ∧ S x ∧ hold h = nI x
def zWon (q : Nat) (mk : Nat → Nat) (lf : Nat → Bool) (hold hold' : Nat → Int32) (u r z : Nat) : Prop :=
  zOk q mk lf hold' ∧ (∀ h, u.testBit h = false → hold' h = hold h) ∧ zInj hold' z ∧ (∀ x, x < 8 → (zHas hold' z x ↔ (x = r ∨ zHas hold z x))) ∧ (∀ S : Nat → Prop, zShut q mk lf hold S → ¬ S r ∧ ∀ y, y < q → S y → ∀ h, h < 12 → (mk y).testBit h = true → lf h = true → hold' h = hold h)
def zLost (q : Nat) (mk : Nat → Nat) (hold : Nat → Int32) (u u' : Nat) : Prop :=
  ∀ v, v < 12 → u.testBit v = true → u'.testBit v = false → ∃ x, x < q ∧ hold v = nI x ∧ ∀ h, h < 12 → (mk x).testBit h = true → u'.testBit h = false
def zSub (u' u : Nat) : Prop := ∀ h, u'.testBit h = true → u.testBit h = true
abbrev zHeld (hold : Nat → Int32) (h : Nat) : Bool := !decide (hold h = -1)
theorem aug_core {q : Nat} {mk : Nat → Nat} {lf : Nat → Bool} {gf : Nat → Int32} (hq : q ≤ 8) (hgf : ∀ r, r < q → gf r = nI (mk r)) (hmk : ∀ r, r < q → mk r < 4096) :
    ∀ (jd d r z u : Nat) (hold : Nat → Int32), 16 ≤ jd + d → r < q → u < 4096 → (∀ h, u.testBit h = true → lf h = true) → zOk q mk lf hold → zInj hold 12 →
      ((z = 12 ∧ ∀ h, h < 12 → hold h ≠ nI r) ∨ (z < 12 ∧ hold z = nI r ∧ u.testBit z = false)) →
      d ≤ fb_ct (fun h => zHeld hold h && !u.testBit h) 12 → fb_ct (zHeld hold) 12 ≤ 7 →
      ∃ (c : Int32) (hold' : Nat → Int32) (u' : Nat), f_X4_augment jd gf hold (nI u) (nI r) (nI d) = some (c, hold', nI u') ∧ u' < 4096 ∧ zSub u' u ∧
        ((c = 1 ∧ zWon q mk lf hold hold' u r z) ∨ (c = 0 ∧ hold' = hold ∧ zLost q mk hold u u' ∧ ∀ h, h < 12 → (mk r).testBit h = true → u'.testBit h = false)) := by
  intro jd
  induction jd with
  | zero =>
    intro d r z u hold h16 hr hu hlf ok inj hz hd h7
    have : fb_ct (fun h => zHeld hold h && !u.testBit h) 12 ≤ fb_ct (zHeld hold) 12 := fb_ct_sub (fun k hk h => by
      rw [Bool.and_eq_true] at h; exact h.1)
    omega
  | succ jd ih =>
    intro d r z u hold h16 hr hu hlf ok inj hz hd h7
    have dle : fb_ct (fun h => zHeld hold h && !u.testBit h) 12 ≤ fb_ct (zHeld hold) 12 := fb_ct_sub (fun k hk h => by
      rw [Bool.and_eq_true] at h; exact h.1)
    have hd7 : d ≤ 7 := by omega
    rw [f_X4_augment, if_neg (show ¬ (8 : Int32) < nI d from nI_nlt (a := 8) (by omega) (by omega)), if_neg (nI_pos (by omega)), if_pos (show nI r < (8 : Int32) from nI_lt (b := 8) (by omega) (by omega))]
    have key := pzC (F := fun fu x (s : (Nat → Int32) × Int32) => f_X4_augment_L20 (f_X4_augment jd) gf (nI r) (nI d) fu x s.1 s.2) (n := 12)
      (I := fun k s => s.1 = hold ∧ ∃ U, s.2 = nI U ∧ U < 4096 ∧ zSub U u ∧ (∀ h, h < k → (mk r).testBit h = true → U.testBit h = false) ∧ zLost q mk hold u U)
      (Q := fun o => (∃ U, o = some (.inr (nI 12, hold, nI U)) ∧ U < 4096 ∧ zSub U u ∧ (∀ h, h < 12 → (mk r).testBit h = true → U.testBit h = false) ∧ zLost q mk hold u U) ∨ (∃ hold' U, o = some (.inl (1, hold', nI U)) ∧ U < 4096 ∧ zSub U u ∧ zWon q mk lf hold hold' u r z))
      (fun fu s hI => by
        obtain ⟨rfl, U, hU, h1, h2, h3, h4⟩ := hI
        refine Or.inl ⟨U, ?_, h1, h2, h3, h4⟩
        show f_X4_augment_L20 (f_X4_augment jd) gf (nI r) (nI d) (fu + 1) (nI 12) s.1 s.2 = _
        rw [f_X4_augment_L20, if_pos (by decide), hU])
      (fun fu k s hk hI => by
        obtain ⟨s1, s2⟩ := s
        obtain ⟨e1, U, e2, hU, hsub, hdone, hlost⟩ := hI
        simp only at e1 e2
        subst e1 e2
        show ((∃ U', f_X4_augment_L20 (f_X4_augment jd) gf (nI r) (nI d) (fu + 1) (nI k) s1 (nI U) = some (.inr (nI 12, s1, nI U')) ∧ _) ∨ (∃ hold' U', f_X4_augment_L20 (f_X4_augment jd) gf (nI r) (nI d) (fu + 1) (nI k) s1 (nI U) = some (.inl (1, hold', nI U')) ∧ _)) ∨ ∃ s' : (Nat → Int32) × Int32, _ ∧ f_X4_augment_L20 (f_X4_augment jd) gf (nI r) (nI d) (fu + 1) (nI k) s1 (nI U) = f_X4_augment_L20 (f_X4_augment jd) gf (nI r) (nI d) fu (nI (k + 1)) s'.1 s'.2
        rw [f_X4_augment_L20, if_neg (show ¬ (12 : Int32) ≤ nI k from nI_ge (b := 12) hk (by omega)), if_pos (show jin (nI r) 8 = true by rw [z_jin (by omega)]; simp; omega), z_cl (show r < 2147483648 by omega), hgf r hr, fa_and, z_one k (by omega)]
        simp only [z_and0 (show k < 31 by omega), Nat.testBit_and]
        by_cases c : ((mk r).testBit k && U.testBit k) = false
        · rw [if_pos c, nI_1]
          refine Or.inr ⟨(s1, nI U), ⟨rfl, U, rfl, hU, hsub, ?_, hlost⟩, rfl⟩
          intro h hh hm
          rcases Nat.lt_or_ge h k with a | a
          · exact hdone h a hm
          · obtain rfl : h = k := by omega
            rw [hm] at c; simpa using c
        · rw [if_neg c]
          have cm : (mk r).testBit k = true ∧ U.testBit k = true := by
            cases e : (mk r).testBit k <;> cases e' : U.testBit k <;> simp_all
          have hku : u.testBit k = true := hsub k cm.2
          have hzk : k ≠ z := by
            rintro rfl
            rcases hz with ⟨a, _⟩ | ⟨_, _, a⟩
            · omega
            · rw [hku] at a; cases a
          have jk : jin (nI k) 12 = true := by rw [z_jin (by omega)]; simp; omega
          rw [if_pos jk, z_cl (show k < 2147483648 by omega), z_clr]
          have hU1 : zCl U k < 4096 := zCl_lt (n := 12) hU
          have sub1 : zSub (zCl U k) u := by
            intro h hh; rw [zCl_bit] at hh; exact hsub h (by cases e : U.testBit h <;> simp_all)
          have kout : (zCl U k).testBit k = false := by rw [zCl_bit]; simp
          rcases ok.1 k hk with hf | ⟨x, hx, hf⟩
          · rw [if_pos hf, if_pos jk]
            refine Or.inl (Or.inr ⟨_, _, rfl, hU1, sub1, ?_⟩)
            refine ⟨⟨fun h hh => ?_, fun h x hh hx e => ?_⟩, fun h hh => ?_, fun h1 h2 x hh1 hh2 hx n1 n2 e1 e2 => ?_, fun x hx => ⟨?_, ?_⟩, fun S hS => ⟨fun sr => ?_, fun y hy sy h hh hm hl => ?_⟩⟩
            · by_cases e : h = k
              · rw [e, z_upds]; exact Or.inr ⟨r, hr, rfl⟩
              · rw [z_updn _ e]; exact ok.1 h hh
            · by_cases e3 : h = k
              · rw [e3, z_upds, z_eq (by omega) (by omega)] at e
                rw [e3, ← e]; exact ⟨cm.1, hlf k hku⟩
              · rw [z_updn _ e3] at e; exact ok.2 h x hh hx e
            · rw [z_updn _ (by rintro rfl; rw [hku] at hh; cases hh)]
            · by_cases a1 : h1 = k
              · by_cases a2 : h2 = k
                · rw [a1, a2]
                · exfalso
                  rw [a1, z_upds, z_eq (by omega) (by omega)] at e1
                  rw [z_updn _ a2, ← e1] at e2
                  rcases hz with ⟨_, b⟩ | ⟨b1, b2, _⟩
                  · exact b h2 hh2 e2
                  · exact n2 (inj h2 z r hh2 b1 (by omega) (by omega) (by omega) e2 b2)
              · by_cases a2 : h2 = k
                · exfalso
                  rw [a2, z_upds, z_eq (by omega) (by omega)] at e2
                  rw [z_updn _ a1, ← e2] at e1
                  rcases hz with ⟨_, b⟩ | ⟨b1, b2, _⟩
                  · exact b h1 hh1 e1
                  · exact n1 (inj h1 z r hh1 b1 (by omega) (by omega) (by omega) e1 b2)
                · rw [z_updn _ a1] at e1; rw [z_updn _ a2] at e2
                  exact inj h1 h2 x hh1 hh2 hx (by omega) (by omega) e1 e2
            · rintro ⟨h, a1, a2, a3⟩
              by_cases e : h = k
              · rw [e, z_upds, z_eq (by omega) (by omega)] at a3; exact Or.inl a3.symm
              · rw [z_updn _ e] at a3; exact Or.inr ⟨h, a1, a2, a3⟩
            · rintro (rfl | ⟨h, a1, a2, a3⟩)
              · exact ⟨k, hk, hzk, z_upds _ _ _⟩
              · have : h ≠ k := by rintro rfl; rw [hf] at a3; exact zm1_ne (by omega) a3.symm
                exact ⟨h, a1, a2, by rw [z_updn _ this]; exact a3⟩
            · obtain ⟨x, _, _, e⟩ := hS r hr sr k hk cm.1 (hlf k hku)
              rw [hf] at e; exact zm1_ne (x := x) (by omega) e.symm
            · obtain ⟨x, _, _, e⟩ := hS y hy sy h hh hm hl
              exact z_updn _ (by rintro rfl; rw [hf] at e; exact zm1_ne (x := x) (by omega) e.symm)
          · have hne : ¬ s1 k = -1 := by rw [hf]; exact zm1_ne (by omega)
            rw [if_neg hne, hf, nI_1]
            have heldk : zHeld s1 k = true := by simp [zHeld, hne]
            have cnt : d + 1 ≤ fb_ct (fun h => zHeld s1 h && !(zCl U k).testBit h) 12 := by
              have a := fb_ct_upd (fun h => zHeld s1 h && !(zCl U k).testBit h) false (i := k) (n := 12) hk
              rw [if_pos (by rw [heldk, kout]; rfl), if_neg (by decide)] at a
              have b : fb_ct (fun h => zHeld s1 h && !u.testBit h) 12 ≤ fb_ct (fun j => if j = k then false else (zHeld s1 j && !(zCl U k).testBit j)) 12 := fb_ct_sub (fun h hh e => by
                have n : h ≠ k := by rintro rfl; rw [hku] at e; simp at e
                rw [if_neg n]
                rw [Bool.and_eq_true] at e ⊢
                refine ⟨e.1, ?_⟩
                cases e4 : (zCl U k).testBit h
                · rfl
                · have := sub1 h e4; rw [this] at e; simp at e)
              omega
            obtain ⟨c', hold', u', g1, g2, g3, g4⟩ := ih (d + 1) x k (zCl U k) s1 (by omega) hx hU1 (fun h hh => hlf h (sub1 h hh)) ok inj (Or.inr ⟨hk, hf, kout⟩) cnt h7
            rw [g1, z_bind]
            rcases g4 with ⟨rfl, w1, w2, w3, w4, w5⟩ | ⟨rfl, eh, l1, l2⟩
            · rw [if_neg z_n10, if_pos jk]
              dsimp only
              have hrx : r ≠ x := by
                rintro rfl
                rcases hz with ⟨_, b⟩ | ⟨b1, b2, b3⟩
                · exact b k hk hf
                · exact hzk (inj k z r hk b1 (by omega) (by omega) (by omega) hf b2)
              -- where r stands in hold'
              have hr' : ∀ h, h < 12 → h ≠ k → hold' h = nI r → h = z := by
                intro h hh hn e
                have a : zHas hold' k r := ⟨h, hh, hn, e⟩
                rcases (w4 r (by omega)).mp a with e5 | ⟨h5, a1, a2, a3⟩
                · exact absurd e5 hrx
                · rcases hz with ⟨_, b⟩ | ⟨b1, b2, b3⟩
                  · exact absurd a3 (b h5 a1)
                  · have zz : hold' z = nI r := by
                      rw [w2 z (by
                        cases e6 : (zCl U k).testBit z
                        · rfl
                        · have := sub1 z e6; rw [b3] at this; cases this)]
                      exact b2
                    exact w3 h z r hh b1 (by omega) hn (fun q => hzk q.symm) e zz
              refine Or.inl (Or.inr ⟨_, _, rfl, g2, fun h hh => sub1 h (g3 h hh), ?_⟩)
              refine ⟨⟨fun h hh => ?_, fun h x hh hx e => ?_⟩, fun h hh => ?_, fun h1 h2 y hh1 hh2 hy n1 n2 e1 e2 => ?_, fun y hy => ⟨?_, ?_⟩, fun S hS => ⟨fun sr => ?_, fun y hy sy h hh hm hl => ?_⟩⟩
              · by_cases e : h = k
                · rw [e, z_upds]; exact Or.inr ⟨r, hr, rfl⟩
                · rw [z_updn _ e]; exact w1.1 h hh
              · by_cases e3 : h = k
                · rw [e3, z_upds, z_eq (by omega) (by omega)] at e
                  rw [e3, ← e]; exact ⟨cm.1, hlf k hku⟩
                · rw [z_updn _ e3] at e; exact w1.2 h x hh hx e
              · rw [z_updn _ (by rintro rfl; rw [hku] at hh; cases hh)]
                exact w2 h (by
                  cases e6 : (zCl U k).testBit h
                  · rfl
                  · have := sub1 h e6; rw [hh] at this; cases this)
              · by_cases a1 : h1 = k
                · by_cases a2 : h2 = k
                  · rw [a1, a2]
                  · exfalso
                    rw [a1, z_upds, z_eq (by omega) (by omega)] at e1
                    rw [z_updn _ a2, ← e1] at e2
                    exact n2 (hr' h2 hh2 a2 e2)
                · by_cases a2 : h2 = k
                  · exfalso
                    rw [a2, z_upds, z_eq (by omega) (by omega)] at e2
                    rw [z_updn _ a1, ← e2] at e1
                    exact n1 (hr' h1 hh1 a1 e1)
                  · rw [z_updn _ a1] at e1; rw [z_updn _ a2] at e2
                    exact w3 h1 h2 y hh1 hh2 hy a1 a2 e1 e2
              · rintro ⟨h, a1, a2, a3⟩
                by_cases e : h = k
                · rw [e, z_upds, z_eq (by omega) (by omega)] at a3; exact Or.inl a3.symm
                · rw [z_updn _ e] at a3
                  rcases (w4 y hy).mp ⟨h, a1, e, a3⟩ with e5 | ⟨h5, b1, b2, b3⟩
                  · exact Or.inr ⟨k, hk, hzk, by rw [e5]; exact hf⟩
                  · by_cases e7 : h5 = z
                    · -- y = r
                      rcases hz with ⟨c1, _⟩ | ⟨c1, c2, _⟩
                      · omega
                      · rw [e7, c2, z_eq (by omega) (by omega)] at b3
                        exact Or.inl b3.symm
                    · exact Or.inr ⟨h5, b1, e7, b3⟩
              · rintro (rfl | ⟨h, a1, a2, a3⟩)
                · exact ⟨k, hk, hzk, z_upds _ _ _⟩
                · by_cases e : h = k
                  · -- y = x, which has moved
                    rw [e, hf, z_eq (by omega) (by omega)] at a3
                    obtain ⟨h5, b1, b2, b3⟩ := (w4 x (by omega)).mpr (Or.inl rfl)
                    have n5 : h5 ≠ z := by
                      rintro rfl
                      rcases hz with ⟨c1, _⟩ | ⟨c1, c2, c3⟩
                      · omega
                      · rw [w2 h5 (by
                          cases e6 : (zCl U k).testBit h5
                          · rfl
                          · have := sub1 h5 e6; rw [c3] at this; cases this), c2, z_eq (by omega) (by omega)] at b3
                        exact hrx b3
                    exact ⟨h5, b1, n5, by rw [z_updn _ b2, b3, a3]⟩
                  · obtain ⟨h5, b1, b2, b3⟩ := (w4 y hy).mpr (Or.inr ⟨h, a1, e, a3⟩)
                    have n5 : h5 ≠ z := by
                      rintro rfl
                      rcases hz with ⟨c1, _⟩ | ⟨c1, c2, c3⟩
                      · omega
                      · rw [w2 h5 (by
                          cases e6 : (zCl U k).testBit h5
                          · rfl
                          · have := sub1 h5 e6; rw [c3] at this; cases this), c2, z_eq (by omega) (by omega)] at b3
                        rw [← b3] at a3
                        exact a2 (inj h h5 r a1 c1 (by omega) (by omega) (by omega) a3 c2)
                    exact ⟨h5, b1, n5, by rw [z_updn _ b2, b3]⟩
              · obtain ⟨x', x1, x2, e⟩ := hS r hr sr k hk cm.1 (hlf k hku)
                rw [hf, z_eq (by omega) (by omega)] at e
                exact (w5 S hS).1 (by rw [e]; exact x2)
              · obtain ⟨x', x1, x2, e⟩ := hS y hy sy h hh hm hl
                have n : h ≠ k := by
                  rintro rfl
                  rw [hf, z_eq (by omega) (by omega)] at e
                  exact (w5 S hS).1 (by rw [e]; exact x2)
                rw [z_updn _ n]
                exact (w5 S hS).2 y hy sy h hh hm hl
            · have eh := eh.symm
              subst eh
              rw [if_pos rfl]
              refine Or.inr ⟨(s1, nI u'), ⟨rfl, u', rfl, g2, fun h hh => sub1 h (g3 h hh), ?_, ?_⟩, by rw [nI_1]⟩
              · intro h hh hm
                have out : ∀ h, U.testBit h = false → u'.testBit h = false := by
                  intro h e
                  cases e6 : u'.testBit h
                  · rfl
                  · have := g3 h e6; rw [zCl_bit, e] at this; cases this
                rcases Nat.lt_or_ge h k with a | a
                · exact out h (hdone h a hm)
                · obtain rfl : h = k := by omega
                  cases e6 : u'.testBit h
                  · rfl
                  · have := g3 h e6; rw [kout] at this; cases this
              · intro v hv hu1 hu2
                have out : ∀ h, U.testBit h = false → u'.testBit h = false := by
                  intro h e
                  cases e6 : u'.testBit h
                  · rfl
                  · have := g3 h e6; rw [zCl_bit, e] at this; cases this
                by_cases e : v = k
                · subst e
                  exact ⟨x, hx, hf, l2⟩
                · cases e7 : U.testBit v
                  · obtain ⟨y, y1, y2, y3⟩ := hlost v hv hu1 e7
                    exact ⟨y, y1, y2, fun h hh hm => out h (y3 h hh hm)⟩
                  · exact l1 v hv (by rw [zCl_bit, e7]; simp [e]) hu2)
      12 0 (hold, nI u) jFU rfl (pz_jFU (by omega)) ⟨rfl, u, rfl, hu, fun h hh => hh, fun h hh => by omega, fun v hv a b => by rw [a] at b; cases b⟩
    rcases key with ⟨U, e, h1, h2, h3, h4⟩ | ⟨hold', U, e, h1, h2, h3⟩
    · have e' : f_X4_augment_L20 (f_X4_augment jd) gf (nI r) (nI d) jFU 0 hold (nI u) = some (.inr (nI 12, hold, nI U)) := e
      rw [e', z_bind]
      exact ⟨0, hold, U, rfl, h1, h2, Or.inr ⟨rfl, rfl, h4, h3⟩⟩
    · have e' : f_X4_augment_L20 (f_X4_augment jd) gf (nI r) (nI d) jFU 0 hold (nI u) = some (.inl (1, hold', nI U)) := e
      rw [e', z_bind]
      exact ⟨1, hold', U, rfl, h1, h2, Or.inl ⟨rfl, h3⟩⟩

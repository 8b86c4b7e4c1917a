/-! PURE: whether a hammer fits, and the best one -/
def zMay (hp hw hs hd rp rt rf rl : Nat → Int32) (b : Nat) (bh bf bl : Nat → Int32) (k h : Nat) : Bool := decide (¬ rt k < jabs (hp h - rp k) ∧ ¬ (100 : Int32) ≤ hw h ∧ (hs h = -1 → ¬ rf k ≤ hd h) ∧ ¬ zMt b bh bf bl (nI h) (rf k) (rl k) < b)
theorem x8_suits {n q b k h : Nat} (hp hw hs hd rp rt rf rl bh bf bl : Nat → Int32) (hn : n ≤ 12) (hq : q ≤ 8) (hb : b ≤ 480) (hk : k < q) (hh : h < n) : f_X8_suits (nI n) hp hw hs hd (nI q) rp rt rf rl (nI b) bh bf bl (nI k) (nI h) = some (if zMay hp hw hs hd rp rt rf rl b bh bf bl k h = true then 1 else 0) := by
  unfold f_X8_suits zMay
  have aw : f_X2_isAway (nI n) hs (nI h) = some (if hs h = -1 then 1 else 0) := by
    unfold f_X2_isAway
    rw [x2_hasT hn hh, z_bind, if_neg (by decide), if_pos (by rw [z_jin (by omega)]; simp; omega), z_cl (by omega)]
    split <;> rfl
  rw [x5_hasT hq hk, z_bind, if_neg (by decide), x2_hasT hn hh, z_bind, if_neg (by decide), x5_firstDayAt rf hq hk, z_bind, x2_pitchOf hp hn hh, z_bind, x5_pitchAt rp hq hk, z_bind, x5_toleranceAt rt hq hk, z_bind, x2_wearOf hw hn hh, z_bind, aw, z_bind]
  simp only [decide_eq_true_eq, z_bind, x5_lastDayAt rl hq hk, x2_dueDayOf hd hn hh, x0_meets bh bf bl _ _ _ hb]
  by_cases c1 : rt k < jabs (hp h - rp k)
  · rw [if_pos c1, if_neg (fun z => z.1 c1)]
  · rw [if_neg c1]
    by_cases c2 : (100 : Int32) ≤ hw h
    · rw [if_pos c2, if_neg (fun z => z.2.1 c2)]
    · rw [if_neg c2]
      by_cases c3 : hs h = -1
      · rw [if_pos c3, if_neg (by decide)]
        by_cases c4 : rf k ≤ hd h
        · rw [if_pos c4, if_neg (fun z => z.2.2.1 c3 c4)]
        · rw [if_neg c4]
          by_cases c5 : zMt b bh bf bl (nI h) (rf k) (rl k) < b
          · rw [if_pos c5, if_neg (by decide), if_neg (fun z => z.2.2.2 c5)]
          · rw [if_neg c5, if_pos rfl, if_pos ⟨c1, c2, fun _ => c4, c5⟩]
      · rw [if_neg c3, if_pos rfl]
        by_cases c5 : zMt b bh bf bl (nI h) (rf k) (rl k) < b
        · rw [if_pos c5, if_neg (by decide), if_neg (fun z => z.2.2.2 c5)]
        · rw [if_neg c5, if_pos rfl, if_pos ⟨c1, c2, fun z => absurd z c3, c5⟩]
theorem x10_may {n q b T k h : Nat} {P W L B D : Nat → Nat} {hc rc rn bc : Int32} {hp hw hs hb hd ht ri rb rp rt rf rl bh bb bf bl m : Nat → Int32} (H : zRH n P W L B D T hc hp hw hs hb hd ht m) (R : zRR q T rc rn ri rb rp rt rf rl m) (G : zRB b n T bc bh bb bf bl m) (hk : k < q) (hh : h < n) : f_X10_may m (nI k) (nI h) = some (if zMay hp hw hs hd rp rt rf rl b bh bf bl k h = true then 1 else 0) := by
  obtain ⟨h1, h2, h3, h4, h5, h6, h7, h8, h9, h10⟩ := H
  obtain ⟨r1, r2, r3, r4, r5, r6, r7⟩ := R
  obtain ⟨b1, b2, b3, b6, b7⟩ := G
  have g := h6 h hh
  have g5 := h5 h hh
  have r := r6 k hk
  unfold f_X10_may zMay
  rw [x10_requestOf, z_bind, x10_hammerOf, z_bind]
  simp only [z_addl]
  have j : ∀ x, x < 2048 → jin (nI x) 2048 = true := fun x hx => by rw [z_jin (by omega)]; simp; omega
  rw [if_pos (j (8 + 6 * h) (by omega)), if_pos (j (80 + 6 * k + 2) (by omega)), if_pos (j (80 + 6 * k + 3) (by omega))]
  simp only [j (8 + 6 * h + 2) (by omega), j (8 + 6 * h + 1) (by omega), j (8 + 6 * h + 5) (by omega), j (80 + 6 * k + 4) (by omega), j (80 + 6 * k + 5) (by omega), if_true, z_cl (show 8 + 6 * h < 2147483648 by omega), z_cl (show 8 + 6 * h + 1 < 2147483648 by omega), z_cl (show 8 + 6 * h + 2 < 2147483648 by omega), z_cl (show 8 + 6 * h + 5 < 2147483648 by omega), z_cl (show 80 + 6 * k + 2 < 2147483648 by omega), z_cl (show 80 + 6 * k + 3 < 2147483648 by omega), z_cl (show 80 + 6 * k + 4 < 2147483648 by omega), z_cl (show 80 + 6 * k + 5 < 2147483648 by omega)]
  rw [g.1, g.2.1, g.2.2.1, r.2.2.1, r.2.2.2.1, r.2.2.2.2.1, r.2.2.2.2.2, x10_isFree _ _ _ b1 b3 b6, z_bind, g5.1, g5.2.1, g5.2.2]
  have e1 : (zR (L h) = -1) = (18 ≤ L h) := zR_m1
  have e2 : (zS (L h) = -1) = (18 ≤ L h) := zS_m1
  simp only [e1, e2, decide_eq_true_eq]
  by_cases c1 : rt k < jabs (nI (P h) - rp k)
  · rw [if_pos c1]
    simp only [ite_self]
    rw [if_neg (fun z => z.1 c1)]
  · rw [if_neg c1]
    by_cases c2 : (100 : Int32) ≤ nI (W h)
    · rw [if_pos c2]
      simp only [ite_self]
      rw [if_neg (fun z => z.2.1 c2)]
    · rw [if_neg c2]
      by_cases c3 : 18 ≤ L h
      · have dd := h7 h hh (by have := (h4 h hh).2.2; omega)
        rw [if_pos c3, dd.2.2.2.2.2, dd.2.2.2.1]
        by_cases c4 : rf k ≤ nI (D h)
        · rw [if_pos c4, if_neg (fun z => z.2.2.1 c3 c4)]
        · rw [if_neg c4]
          by_cases c5 : zMt b bh bf bl (nI h) (rf k) (rl k) < b
          · rw [if_pos c5, if_pos rfl, if_neg (fun z => z.2.2.2 c5)]
          · rw [if_neg c5, if_neg (by decide), if_pos ⟨c1, c2, fun _ => c4, c5⟩]
      · rw [if_neg c3]
        by_cases c5 : zMt b bh bf bl (nI h) (rf k) (rl k) < b
        · rw [if_pos c5, if_pos rfl, if_neg (fun z => z.2.2.2 c5)]
        · rw [if_neg c5, if_neg (by decide), if_pos ⟨c1, c2, fun z => absurd z c3, c5⟩]
/-- the first of those with q whose key is least -/
def zBst (q : Nat → Bool) (key : Nat → Nat) : Nat → Option Nat
  | 0 => none
  | i + 1 => match zBst q key i with
    | none => if q i = true then some i else none
    | some j => if q i = true ∧ key i < key j then some i else some j
theorem zBst_lt (q : Nat → Bool) (key : Nat → Nat) : ∀ n j, zBst q key n = some j → j < n ∧ q j = true := by
  intro n
  induction n with
  | zero => intro j h; cases h
  | succ n ih =>
    intro j h
    unfold zBst at h
    cases e : zBst q key n with
    | none =>
      rw [e] at h
      simp only at h
      by_cases c : q n = true
      · rw [if_pos c] at h; cases h; exact ⟨by omega, c⟩
      · rw [if_neg c] at h; cases h
    | some i =>
      rw [e] at h
      simp only at h
      have := ih i e
      by_cases c : q n = true ∧ key n < key i
      · rw [if_pos c] at h; cases h; exact ⟨by omega, c.1⟩
      · rw [if_neg c] at h; cases h; exact ⟨by omega, this.2⟩
def zOp : Option Nat → Int32
  | none => -1
  | some k => nI k
/-- how far two numbers are apart -/
def zAb (a b : Nat) : Nat := if b ≤ a then a - b else b - a
theorem z_jabs {a b : Nat} (ha : a < 1000000) (hb : b < 1000000) : jabs (nI a - nI b) = nI (zAb a b) := by
  unfold jabs zAb
  simp only [z_sub_ge0 ha hb]
  by_cases c : b ≤ a
  · rw [if_pos c, if_pos c, pk_sub c]
  · rw [if_neg c, if_neg c]
    apply (fa_eq _ _).mpr
    rw [nI_toInt (by omega)]
    have e1 : (nI a - nI b).toInt = (a : Int) - b := pk_sub_toInt (by omega) (by omega)
    have e0 : (0 : Int32).toInt = 0 := by decide
    rw [fb_subI (by rw [e1, e0]; omega) (by rw [e1, e0]; omega), e1, e0]
    omega
abbrev zKey (P W : Nat → Nat) (p : Nat) (h : Nat) : Nat := zAb (P h) p * 101 + W h
theorem x8_bestFor {n q b T k p : Nat} {P W L B D : Nat → Nat} {hc rc rn bc : Int32} {hp hw hs hb hd ht ri rb rp rt rf rl bh bb bf bl m : Nat → Int32} (H : zRH n P W L B D T hc hp hw hs hb hd ht m) (R : zRR q T rc rn ri rb rp rt rf rl m) (G : zRB b n T bc bh bb bf bl m) (hk : k < q) (hpk : rp k = nI p) (hp60 : p ≤ 60) : f_X8_bestFor hc hp hw hs hd rc rp rt rf rl bc bh bf bl (nI k) = some (zOp (zBst (fun h => zMay hp hw hs hd rp rt rf rl b bh bf bl k h) (zKey P W p) n)) := by
  obtain ⟨h1, h2, h3, h4, h5, h6, h7, h8, h9, h10⟩ := H
  obtain ⟨r1, r2, r3, r4, r5, r6, r7⟩ := R
  obtain ⟨b1, b2, b3, b6, b7⟩ := G
  subst h2 r2 b2
  have rem : ∀ h, h < n → f_X8_remoteness (nI n) hp hw (nI q) rp (nI k) (nI h) = some (nI (zKey P W p h)) := by
    intro h hh
    unfold f_X8_remoteness
    have e1 := h5 h hh
    have e2 := h4 h hh
    rw [x2_pitchOf hp h1 hh, z_bind, x5_pitchAt rp r1 hk, z_bind, x2_wearOf hw h1 hh, z_bind, e1.1, e1.2.1, hpk, z_jabs (by omega) (by omega), z_mull, nI_add]
  have kb : ∀ h, h < n → zKey P W p h < 1000000 := by
    intro h hh
    have e2 := h4 h hh
    show zAb (P h) p * 101 + W h < 1000000
    have : zAb (P h) p ≤ 60 := by unfold zAb; split <;> omega
    omega
  obtain ⟨s, hs', e⟩ := pzG (F := fun fu x (s : Int32 × Int32) => f_X8_bestFor_L7 (nI n) hp hw hs hd (nI q) rp rt rf rl (nI b) bh bf bl (nI k) fu x s.1 s.2) (n := n) (fun i s => s.2 = zOp (zBst (fun h => zMay hp hw hs hd rp rt rf rl b bh bf bl k h) (zKey P W p) i) ∧ ∀ j, zBst (fun h => zMay hp hw hs hd rp rt rf rl b bh bf bl k h) (zKey P W p) i = some j → s.1 = nI (zKey P W p j))
    (fun fu s _ => by
      show f_X8_bestFor_L7 (nI n) hp hw hs hd (nI q) rp rt rf rl (nI b) bh bf bl (nI k) (fu + 1) (nI n) s.1 s.2 = _
      rw [f_X8_bestFor_L7]
      unfold f_X2_size
      rw [z_bind, if_pos (nI_le (Nat.le_refl _) (by omega))])
    (fun fu i s hi hs' => by
      obtain ⟨s1, s2⟩ := s
      obtain ⟨hs1, hs2⟩ := hs'
      simp only at hs1 hs2
      show ∃ s' : Int32 × Int32, _ ∧ f_X8_bestFor_L7 (nI n) hp hw hs hd (nI q) rp rt rf rl (nI b) bh bf bl (nI k) (fu + 1) (nI i) s1 s2 = f_X8_bestFor_L7 (nI n) hp hw hs hd (nI q) rp rt rf rl (nI b) bh bf bl (nI k) fu (nI (i + 1)) s'.1 s'.2
      rw [f_X8_bestFor_L7]
      unfold f_X2_size
      rw [z_bind, if_neg (nI_ge hi (by omega)), rem i hi, z_bind, x8_suits hp hw hs hd rp rt rf rl bh bf bl h1 r1 b1 hk hi, z_bind, nI_1]
      cases eb : zBst (fun h => zMay hp hw hs hd rp rt rf rl b bh bf bl k h) (zKey P W p) i with
      | none =>
        rw [eb] at hs1
        by_cases c : zMay hp hw hs hd rp rt rf rl b bh bf bl k i = true
        · refine ⟨(nI (zKey P W p i), nI i), ⟨?_, ?_⟩, ?_⟩
          · unfold zBst; rw [eb]; simp only [c, if_true]; rfl
          · intro j hj; unfold zBst at hj; rw [eb] at hj; simp only [c, if_true] at hj; cases hj; rfl
          · rw [if_pos c, if_neg (by decide), hs1, if_pos (show zOp none = -1 from rfl)]
        · refine ⟨(s1, s2), ⟨?_, ?_⟩, ?_⟩
          · unfold zBst; rw [eb]; simp only [c]; exact hs1
          · intro j hj; unfold zBst at hj; rw [eb] at hj; simp only [c] at hj; cases hj
          · rw [if_neg c, if_pos rfl]
      | some j =>
        rw [eb] at hs1
        have hj := zBst_lt _ _ _ _ eb
        have e1 := hs2 j eb
        by_cases c : zMay hp hw hs hd rp rt rf rl b bh bf bl k i = true
        · rw [if_pos c, if_neg (by decide), hs1, if_neg (show ¬ zOp (some j) = -1 by show ¬ nI j = -1; rw [z_m1 (by omega)]; exact id), e1]
          simp only [z_le (show zKey P W p j < 2147483648 by have := kb j (by omega); omega) (show zKey P W p i < 2147483648 by have := kb i hi; omega)]
          by_cases d : zKey P W p j ≤ zKey P W p i
          · refine ⟨(s1, s2), ⟨?_, ?_⟩, ?_⟩
            · unfold zBst; rw [eb]; simp only [if_neg (show ¬ (zMay hp hw hs hd rp rt rf rl b bh bf bl k i = true ∧ zKey P W p i < zKey P W p j) from fun z => by omega)]; exact hs1
            · intro j' hj'; unfold zBst at hj'; rw [eb] at hj'; simp only [if_neg (show ¬ (zMay hp hw hs hd rp rt rf rl b bh bf bl k i = true ∧ zKey P W p i < zKey P W p j) from fun z => by omega)] at hj'; cases hj'; exact e1
            · rw [if_pos d, ← e1, ← hs1]
          · refine ⟨(nI (zKey P W p i), nI i), ⟨?_, ?_⟩, ?_⟩
            · unfold zBst; rw [eb]; simp only [if_pos (show (zMay hp hw hs hd rp rt rf rl b bh bf bl k i = true ∧ zKey P W p i < zKey P W p j) from ⟨c, by omega⟩)]; rfl
            · intro j' hj'; unfold zBst at hj'; rw [eb] at hj'; simp only [if_pos (show (zMay hp hw hs hd rp rt rf rl b bh bf bl k i = true ∧ zKey P W p i < zKey P W p j) from ⟨c, by omega⟩)] at hj'; cases hj'; rfl
            · rw [if_neg d]
        · refine ⟨(s1, s2), ⟨?_, ?_⟩, ?_⟩
          · unfold zBst; rw [eb]; simp only [if_neg (show ¬ (zMay hp hw hs hd rp rt rf rl b bh bf bl k i = true ∧ zKey P W p i < zKey P W p j) from fun z => c z.1)]; exact hs1
          · intro j' hj'; unfold zBst at hj'; rw [eb] at hj'; simp only [if_neg (show ¬ (zMay hp hw hs hd rp rt rf rl b bh bf bl k i = true ∧ zKey P W p i < zKey P W p j) from fun z => c z.1)] at hj'; cases hj'; exact e1
          · rw [if_neg c, if_pos rfl])
    (0, -1) jFU (pz_jFU (by omega)) ⟨rfl, fun j hj => by cases hj⟩
  have e' : f_X8_bestFor_L7 (nI n) hp hw hs hd (nI q) rp rt rf rl (nI b) bh bf bl (nI k) jFU 0 0 (-1) = some (nI n, s) := e
  unfold f_X8_bestFor
  rw [e', z_bind, hs'.1]
theorem x10_best {n q b T k p : Nat} {P W L B D : Nat → Nat} {hc rc rn bc : Int32} {hp hw hs hb hd ht ri rb rp rt rf rl bh bb bf bl m : Nat → Int32} (H : zRH n P W L B D T hc hp hw hs hb hd ht m) (R : zRR q T rc rn ri rb rp rt rf rl m) (G : zRB b n T bc bh bb bf bl m) (hk : k < q) (hpk : rp k = nI p) (hp60 : p ≤ 60) : f_X10_best m (nI k) = some (zOp (zBst (fun h => zMay hp hw hs hd rp rt rf rl b bh bf bl k h) (zKey P W p) n)) := by
  have may := fun h hh => x10_may (h := h) H R G hk hh
  obtain ⟨h1, h2, h3, h4, h5, h6, h7, h8, h9, h10⟩ := H
  obtain ⟨r1, r2, r3, r4, r5, r6, r7⟩ := R
  have j : ∀ x, x < 2048 → jin (nI x) 2048 = true := fun x hx => by rw [z_jin (by omega)]; simp; omega
  have rk := r6 k hk
  obtain ⟨s, hs', e⟩ := pzG (F := f_X10_best_L4 m (nI k)) (n := n) (fun i s => s = zOp (zBst (fun h => zMay hp hw hs hd rp rt rf rl b bh bf bl k h) (zKey P W p) i))
    (fun fu s _ => by
      rw [f_X10_best_L4, if_pos (by decide), show (0 : Int32).toNatClampNeg = 0 from rfl, h3, if_pos (nI_le (Nat.le_refl _) (by omega))])
    (fun fu i s hi hs' => by
      rw [f_X10_best_L4, if_pos (by decide), show (0 : Int32).toNatClampNeg = 0 from rfl, h3, if_neg (nI_ge hi (by omega)), may i hi, z_bind, nI_1, hs']
      cases eb : zBst (fun h => zMay hp hw hs hd rp rt rf rl b bh bf bl k h) (zKey P W p) i with
      | none =>
        by_cases c : zMay hp hw hs hd rp rt rf rl b bh bf bl k i = true
        · refine ⟨nI i, ?_, ?_⟩
          · unfold zBst; rw [eb]; simp only [c, if_true]; rfl
          · rw [if_pos c, if_neg (by decide), x10_requestOf, z_bind, z_addl, if_pos (j _ (by omega)), if_pos (show zOp none = -1 from rfl)]
        · refine ⟨zOp none, ?_, ?_⟩
          · unfold zBst; rw [eb]; simp only [c]; rfl
          · rw [if_neg c, if_pos rfl]
      | some i0 =>
        have hj := zBst_lt _ _ _ _ eb
        by_cases c : zMay hp hw hs hd rp rt rf rl b bh bf bl k i = true
        · have gi := h6 i hi
          have g0 := h6 i0 (by omega)
          have qi := h4 i hi
          have q0 := h4 i0 (by omega)
          have a1 : zAb (P i) p < 1000000 := by unfold zAb; split <;> omega
          have a2 : zAb (P i0) p < 1000000 := by unfold zAb; split <;> omega
          have key : zKey P W p i < zKey P W p i0 ↔ (zAb (P i) p < zAb (P i0) p ∨ zAb (P i) p = zAb (P i0) p ∧ W i < W i0) := by
            show zAb (P i) p * 101 + W i < zAb (P i0) p * 101 + W i0 ↔ _
            omega
          rw [if_pos c, if_neg (by decide), x10_requestOf, z_bind, z_addl, if_pos (j _ (by omega)), if_neg (show ¬ zOp (some i0) = -1 by show ¬ nI i0 = -1; rw [z_m1 (by omega)]; exact id), x10_hammerOf, z_bind, if_pos (j _ (by omega)), show f_X10_hammerOf (zOp (some i0)) = some (nI (8 + 6 * i0)) from x10_hammerOf i0, z_bind, if_pos (j _ (by omega))]
          unfold jlet
          rw [z_cl (by omega), z_cl (by omega), z_cl (by omega), gi.1, g0.1, rk.2.2.1, hpk, z_jabs (by omega) (by omega), z_jabs (by omega) (by omega)]
          simp only [z_sub_eq0 a1 a2, z_sub_ge0 a1 a2]
          rw [z_bind, z_addl, if_pos (j _ (by omega)), z_bind, z_addl, if_pos (j _ (by omega)), z_cl (by omega), z_cl (by omega), gi.2.1, g0.2.1]
          simp only [z_sub_ge0 (show W i < 1000000 by omega) (show W i0 < 1000000 by omega)]
          by_cases d : zKey P W p i < zKey P W p i0
          · refine ⟨nI i, ?_, ?_⟩
            · unfold zBst; rw [eb]; simp only [if_pos (show (zMay hp hw hs hd rp rt rf rl b bh bf bl k i = true ∧ zKey P W p i < zKey P W p i0) from ⟨c, d⟩)]; rfl
            · rw [key] at d
              by_cases e0 : zAb (P i) p = zAb (P i0) p
              · rw [if_pos e0, if_neg (by omega)]
              · rw [if_neg e0, if_neg (by omega)]
          · refine ⟨zOp (some i0), ?_, ?_⟩
            · unfold zBst; rw [eb]; simp only [if_neg (show ¬ (zMay hp hw hs hd rp rt rf rl b bh bf bl k i = true ∧ zKey P W p i < zKey P W p i0) from fun z => d z.2)]
            · rw [key] at d
              by_cases e0 : zAb (P i) p = zAb (P i0) p
              · rw [if_pos e0, if_pos (by omega)]
              · rw [if_neg e0, if_pos (by omega)]
        · refine ⟨zOp (some i0), ?_, ?_⟩
          · unfold zBst; rw [eb]; simp only [if_neg (show ¬ (zMay hp hw hs hd rp rt rf rl b bh bf bl k i = true ∧ zKey P W p i < zKey P W p i0) from fun z => c z.1)]
          · rw [if_neg c, if_pos rfl])
    (-1) jFU (pz_jFU (by omega)) rfl
  unfold f_X10_best
  rw [show f_X10_best_L4 m (nI k) jFU 0 (-1) = f_X10_best_L4 m (nI k) jFU (nI 0) (-1) from rfl, e, z_bind, hs']

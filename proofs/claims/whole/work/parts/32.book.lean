/-! PURE: requests and bookings -/
theorem pzG2 {σ : Type} {F : Nat → Int32 → σ → Option (Int32 × σ)} {n : Nat} (k0 : Nat) (I : Nat → σ → Prop)
    (he : ∀ fu s, I n s → F (fu + 1) (nI n) s = some (nI n, s))
    (hs : ∀ fu k s, k < n → k0 ≤ k → I k s → ∃ s', I (k + 1) s' ∧ F (fu + 1) (nI k) s = F fu (nI (k + 1)) s') : ∀ s fu, k0 ≤ n → n < fu → I k0 s → ∃ s', I n s' ∧ F fu (nI k0) s = some (nI n, s') := by
  intro s fu h0 hf hI
  exact pzC (I := fun k s => k0 ≤ k ∧ I k s) (Q := fun o => ∃ s', I n s' ∧ o = some (nI n, s')) (fun fu s h => ⟨s, h.2, he fu s h.2⟩) (fun fu k s hk h => Or.inr (by
    obtain ⟨s', a, b⟩ := hs fu k s hk h.1 h.2
    exact ⟨s', ⟨by omega, a⟩, b⟩)) (n - k0) k0 s fu (by omega) (by omega) ⟨Nat.le_refl _, hI⟩
def zRR (q T : Nat) (rc rn : Int32) (ri rb rp rt rf rl m : Nat → Int32) : Prop :=
  q ≤ 8 ∧ rc = nI q ∧ m 4 = nI q ∧ m 3 = rn ∧ (∃ i, i ≤ T ∧ rn = nI i) ∧
  (∀ k, k < q → m (80 + 6 * k) = ri k ∧ m (80 + 6 * k + 1) = rb k ∧ m (80 + 6 * k + 2) = rp k ∧ m (80 + 6 * k + 3) = rt k ∧ m (80 + 6 * k + 4) = rf k ∧ m (80 + 6 * k + 5) = rl k) ∧
  (∀ k, k < q → ∃ w p d, w ≤ 9 ∧ p ≤ 60 ∧ d ≤ T + 40 ∧ rb k = nI w ∧ rp k = nI p ∧ rl k = nI d)
def zRB (b n T : Nat) (bc : Int32) (bh bb bf bl m : Nat → Int32) : Prop :=
  b ≤ 480 ∧ bc = nI b ∧ m 5 = nI b ∧
  (∀ j, j < b → m (128 + 4 * j) = bh j ∧ m (128 + 4 * j + 1) = bb j ∧ m (128 + 4 * j + 2) = bf j ∧ m (128 + 4 * j + 3) = bl j) ∧
  (∀ j, j < b → ∃ h w d, h < n ∧ w ≤ 9 ∧ d ≤ T + 40 ∧ bh j = nI h ∧ bb j = nI w ∧ bl j = nI d)
theorem x5_hasT {q k : Nat} (hq : q ≤ 8) (hk : k < q) : f_X5_has (nI q) (nI k) = some 1 := by
  unfold f_X5_has
  rw [if_neg (nI_pos (by omega)), if_neg (nI_ge hk (by omega)), if_neg (show ¬ (8 : Int32) ≤ nI k from nI_ge (b := 8) (by omega) (by omega))]
theorem x5_hasF {q : Nat} {x : Int32} (h : x < 0 ∨ nI q ≤ x) : f_X5_has (nI q) x = some 0 := by
  unfold f_X5_has
  rcases h with h | h
  · rw [if_pos h]
  · by_cases h0 : x < 0
    · rw [if_pos h0]
    · rw [if_neg h0, if_pos h]
theorem x5_idAt {q k : Nat} (f : Nat → Int32) (hq : q ≤ 8) (hk : k < q) : f_X5_idAt (nI q) f (nI k) = some (f k) := by
  unfold f_X5_idAt
  rw [x5_hasT hq hk, z_bind, if_neg (by decide), if_pos (by rw [z_jin (by omega)]; simp; omega), z_cl (by omega)]
theorem x5_borrowerAt {q k : Nat} (f : Nat → Int32) (hq : q ≤ 8) (hk : k < q) : f_X5_borrowerAt (nI q) f (nI k) = some (f k) := by
  unfold f_X5_borrowerAt
  rw [x5_hasT hq hk, z_bind, if_neg (by decide), if_pos (by rw [z_jin (by omega)]; simp; omega), z_cl (by omega)]
theorem x5_pitchAt {q k : Nat} (f : Nat → Int32) (hq : q ≤ 8) (hk : k < q) : f_X5_pitchAt (nI q) f (nI k) = some (f k) := by
  unfold f_X5_pitchAt
  rw [x5_hasT hq hk, z_bind, if_neg (by decide), if_pos (by rw [z_jin (by omega)]; simp; omega), z_cl (by omega)]
theorem x5_toleranceAt {q k : Nat} (f : Nat → Int32) (hq : q ≤ 8) (hk : k < q) : f_X5_toleranceAt (nI q) f (nI k) = some (f k) := by
  unfold f_X5_toleranceAt
  rw [x5_hasT hq hk, z_bind, if_neg (by decide), if_pos (by rw [z_jin (by omega)]; simp; omega), z_cl (by omega)]
theorem x5_firstDayAt {q k : Nat} (f : Nat → Int32) (hq : q ≤ 8) (hk : k < q) : f_X5_firstDayAt (nI q) f (nI k) = some (f k) := by
  unfold f_X5_firstDayAt
  rw [x5_hasT hq hk, z_bind, if_neg (by decide), if_pos (by rw [z_jin (by omega)]; simp; omega), z_cl (by omega)]
theorem x5_lastDayAt {q k : Nat} (f : Nat → Int32) (hq : q ≤ 8) (hk : k < q) : f_X5_lastDayAt (nI q) f (nI k) = some (f k) := by
  unfold f_X5_lastDayAt
  rw [x5_hasT hq hk, z_bind, if_neg (by decide), if_pos (by rw [z_jin (by omega)]; simp; omega), z_cl (by omega)]
theorem x5_isFull {q : Nat} (hq : q ≤ 8) : f_X5_isFull (nI q) = some (if q < 8 then 0 else 1) := by
  unfold f_X5_isFull
  by_cases h : q < 8
  · rw [if_pos (show nI q < (8 : Int32) from nI_lt (b := 8) h (by omega)), if_pos h]
  · rw [if_neg (show ¬ nI q < (8 : Int32) from nI_nlt (a := q) (b := 8) (by omega) (by omega)), if_neg h]
theorem x5_add {q : Nat} (rn : Int32) (ri rb rp rt rf rl : Nat → Int32) (a0 a1 a2 a3 a4 : Int32) (hq : q < 8) : f_X5_add (nI q) rn ri rb rp rt rf rl a0 a1 a2 a3 a4 = some (rn, nI (q + 1), rn + 1, upd ri q rn, upd rb q a0, upd rp q a1, upd rt q a2, upd rf q a3, upd rl q a4) := by
  unfold f_X5_add
  have j : jin (nI q) 8 = true := by rw [z_jin (by omega)]; simp; omega
  rw [x5_isFull (by omega), if_pos hq, z_bind, if_pos rfl]
  simp only [j, if_true, z_cl (show q < 2147483648 by omega), nI_1]
theorem x5_positionOf {q : Nat} (ri : Nat → Int32) (x : Int32) (hq : q ≤ 8) : f_X5_positionOf (nI q) ri x = some (zO q (pzf (fun k => decide (ri k = x)) q)) := by
  have key := pzL (F := f_X5_positionOf_L2 (nI q) ri x) (n := q) (fun k => decide (ri k = x)) (fun k => nI k)
    (fun fu => by rw [f_X5_positionOf_L2, if_pos (nI_le (Nat.le_refl _) (by omega))])
    (fun fu k hk => by
      rw [f_X5_positionOf_L2, if_neg (nI_ge hk (by omega)), x5_idAt ri hq hk, z_bind, nI_1]
      simp only [decide_eq_true_eq])
    jFU (pz_jFU (by omega))
  unfold f_X5_positionOf
  rw [show f_X5_positionOf_L2 (nI q) ri x jFU 0 = f_X5_positionOf_L2 (nI q) ri x jFU (nI 0) from rfl, key]
  unfold zO
  by_cases h : pzf (fun k => decide (ri k = x)) q < q
  · rw [if_pos h, if_pos h]; rfl
  · rw [if_neg h, if_neg h]; rfl
theorem x10_find {q : Nat} {m ri : Nat → Int32} (x : Int32) (hq : q ≤ 8) (hm : m 4 = nI q) (hR : ∀ k, k < q → m (80 + 6 * k) = ri k) : f_X10_find m x = some (zO q (pzf (fun k => decide (ri k = x)) q)) := by
  have key := pzL (F := f_X10_find_L2 m x) (n := q) (fun k => decide (ri k = x)) (fun k => nI k)
    (fun fu => by rw [f_X10_find_L2, if_pos (by decide), show (4 : Int32).toNatClampNeg = 4 from rfl, hm, if_pos (nI_le (Nat.le_refl _) (by omega))])
    (fun fu k hk => by
      rw [f_X10_find_L2, if_pos (by decide), show (4 : Int32).toNatClampNeg = 4 from rfl, hm, if_neg (nI_ge hk (by omega)), x10_requestOf, z_bind, if_pos (by rw [z_jin (by omega)]; simp; omega), z_cl (by omega), hR k hk, nI_1]
      simp only [decide_eq_true_eq])
    jFU (pz_jFU (by omega))
  unfold f_X10_find
  rw [show f_X10_find_L2 m x jFU 0 = f_X10_find_L2 m x jFU (nI 0) from rfl, key]
  unfold zO
  by_cases h : pzf (fun k => decide (ri k = x)) q < q
  · rw [if_pos h, if_pos h]; rfl
  · rw [if_neg h, if_neg h]; rfl
/-! bookings -/
theorem x0_hasT {b j : Nat} (hb : b ≤ 480) (hj : j < b) : f_X0_has (nI b) (nI j) = some 1 := by
  unfold f_X0_has
  rw [if_neg (nI_pos (by omega)), if_neg (nI_ge hj (by omega)), if_neg (show ¬ (480 : Int32) ≤ nI j from nI_ge (b := 480) (by omega) (by omega))]
theorem x0_hasF {b : Nat} {x : Int32} (h : x < 0 ∨ nI b ≤ x) : f_X0_has (nI b) x = some 0 := by
  unfold f_X0_has
  rcases h with h | h
  · rw [if_pos h]
  · by_cases h0 : x < 0
    · rw [if_pos h0]
    · rw [if_neg h0, if_pos h]
theorem x0_hammerOf {b j : Nat} (f : Nat → Int32) (hb : b ≤ 480) (hj : j < b) : f_X0_hammerOf (nI b) f (nI j) = some (f j) := by
  unfold f_X0_hammerOf
  rw [x0_hasT hb hj, z_bind, if_neg (by decide), if_pos (by rw [z_jin (by omega)]; simp; omega), z_cl (by omega)]
theorem x0_borrowerOf {b j : Nat} (f : Nat → Int32) (hb : b ≤ 480) (hj : j < b) : f_X0_borrowerOf (nI b) f (nI j) = some (f j) := by
  unfold f_X0_borrowerOf
  rw [x0_hasT hb hj, z_bind, if_neg (by decide), if_pos (by rw [z_jin (by omega)]; simp; omega), z_cl (by omega)]
theorem x0_lastDayOf {b j : Nat} (f : Nat → Int32) (hb : b ≤ 480) (hj : j < b) : f_X0_lastDayOf (nI b) f (nI j) = some (f j) := by
  unfold f_X0_lastDayOf
  rw [x0_hasT hb hj, z_bind, if_neg (by decide), if_pos (by rw [z_jin (by omega)]; simp; omega), z_cl (by omega)]
theorem x0_add {b : Nat} (bh bb bf bl : Nat → Int32) (a0 a1 a2 a3 : Int32) (hb : b < 480) : f_X0_add (nI b) bh bb bf bl a0 a1 a2 a3 = some (nI (b + 1), upd bh b a0, upd bb b a1, upd bf b a2, upd bl b a3) := by
  unfold f_X0_add
  have j : jin (nI b) 480 = true := by rw [z_jin (by omega)]; simp; omega
  rw [if_neg (nI_pos (by omega)), if_pos (show nI b < (480 : Int32) from nI_lt (b := 480) hb (by omega))]
  simp only [j, if_true, z_cl (show b < 2147483648 by omega), nI_1]
theorem x0_addF (bh bb bf bl : Nat → Int32) (a0 a1 a2 a3 : Int32) : f_X0_add (nI 480) bh bb bf bl a0 a1 a2 a3 = some (nI 480, bh, bb, bf, bl) := by
  unfold f_X0_add
  rw [if_neg (nI_pos (by omega)), if_neg (show ¬ nI 480 < (480 : Int32) from nI_nlt (a := 480) (b := 480) (Nat.le_refl _) (by omega))]
theorem x0_countOf {b : Nat} (bh : Nat → Int32) (x : Int32) (hb : b ≤ 480) : f_X0_countOf (nI b) bh x = some (nI (fb_ct (fun j => decide (bh j = x)) b)) := by
  obtain ⟨s, hs, e⟩ := pzG (F := f_X0_countOf_L4 (nI b) bh x) (n := b) (fun k s => s = nI (fb_ct (fun j => decide (bh j = x)) k))
    (fun fu s _ => by rw [f_X0_countOf_L4, if_pos (nI_le (Nat.le_refl _) (by omega))])
    (fun fu k s hk hs => by
      refine ⟨_, rfl, ?_⟩
      rw [f_X0_countOf_L4, if_neg (nI_ge hk (by omega)), x0_hasT hb hk, z_bind, if_neg (by decide), if_pos (by rw [z_jin (by omega)]; simp; omega), z_cl (by omega), hs, nI_1]
      simp only [fb_ct_succ, decide_eq_true_eq]
      by_cases h : bh k = x
      · rw [if_pos h, if_pos h, nI_1]
      · rw [if_neg h, if_neg h]; try rfl)
    (nI 0) jFU (pz_jFU (by omega)) rfl
  unfold f_X0_countOf
  rw [show f_X0_countOf_L4 (nI b) bh x jFU 0 0 = f_X0_countOf_L4 (nI b) bh x jFU (nI 0) (nI 0) from rfl, e, z_bind, hs]
/-- the first booking of a hammer that meets days -/
abbrev zMt (b : Nat) (bh bf bl : Nat → Int32) (h f l : Int32) : Nat := pzf (fun j => decide (bh j = h ∧ ¬ l < bf j ∧ ¬ bl j < f)) b
theorem x0_meets {b : Nat} (bh bf bl : Nat → Int32) (h f l : Int32) (hb : b ≤ 480) : f_X0_meets (nI b) bh bf bl h f l = some (if zMt b bh bf bl h f l < b then 1 else 0) := by
  have key := pzL (F := f_X0_meets_L3 (nI b) bh bf bl h f l) (n := b) (fun j => decide (bh j = h ∧ ¬ l < bf j ∧ ¬ bl j < f)) (fun _ => 1)
    (fun fu => by rw [f_X0_meets_L3, if_pos (nI_le (Nat.le_refl _) (by omega))])
    (fun fu k hk => by
      have j : jin (nI k) 480 = true := by rw [z_jin (by omega)]; simp; omega
      rw [f_X0_meets_L3, if_neg (nI_ge hk (by omega)), x0_hasT hb hk, z_bind, if_neg (by decide)]
      simp only [j, if_true, z_cl (show k < 2147483648 by omega), nI_1, decide_eq_true_eq]
      by_cases c1 : bh k = h
      · rw [if_pos c1]
        by_cases c2 : l < bf k
        · rw [if_pos c2, if_neg (fun q => q.2.1 c2)]
        · rw [if_neg c2]
          by_cases c3 : bl k < f
          · rw [if_pos c3, if_neg (fun q => q.2.2 c3)]
          · rw [if_neg c3, if_pos ⟨c1, c2, c3⟩]
      · rw [if_neg c1, if_neg (fun q => c1 q.1)])
    jFU (pz_jFU (by omega))
  unfold f_X0_meets
  rw [show f_X0_meets_L3 (nI b) bh bf bl h f l jFU 0 = f_X0_meets_L3 (nI b) bh bf bl h f l jFU (nI 0) from rfl, key]
  by_cases c : zMt b bh bf bl h f l < b
  · rw [if_pos c, if_pos c]; rfl
  · rw [if_neg c, if_neg c]; rfl
theorem x10_isFree {b : Nat} {m bh bb bf bl : Nat → Int32} (h f l : Int32) (hb : b ≤ 480) (hm : m 5 = nI b) (hR : ∀ j, j < b → m (128 + 4 * j) = bh j ∧ m (128 + 4 * j + 1) = bb j ∧ m (128 + 4 * j + 2) = bf j ∧ m (128 + 4 * j + 3) = bl j) : f_X10_isFree m h f l = some (if zMt b bh bf bl h f l < b then 0 else 1) := by
  obtain ⟨s, hs, e⟩ := pzG (F := f_X10_isFree_L6 m h f l) (n := b) (fun k s => s = if pzf (fun j => decide (bh j = h ∧ ¬ l < bf j ∧ ¬ bl j < f)) k < k then 0 else 1)
    (fun fu s _ => by rw [f_X10_isFree_L6, if_pos (by decide), show (5 : Int32).toNatClampNeg = 5 from rfl, hm, if_pos (nI_le (Nat.le_refl _) (by omega))])
    (fun fu k s hk hs => by
      refine ⟨_, rfl, ?_⟩
      have g := hR k hk
      rw [f_X10_isFree_L6, if_pos (by decide), show (5 : Int32).toNatClampNeg = 5 from rfl, hm, if_neg (nI_ge hk (by omega)), x10_bookingOf]
      simp only [z_bind, z_addl]
      rw [if_pos (c := jin (nI (128 + 4 * k)) 2048 = true) (by rw [z_jin (by omega)]; simp; omega), if_pos (c := jin (nI (128 + 4 * k + 2)) 2048 = true) (by rw [z_jin (by omega)]; simp; omega), if_pos (c := jin (nI (128 + 4 * k + 3)) 2048 = true) (by rw [z_jin (by omega)]; simp; omega), z_cl (by omega), z_cl (by omega), z_cl (by omega), g.1, g.2.2.1, g.2.2.2, hs]
      have ne : ((1 : Int32) = 0) = False := z_10
      by_cases old : pzf (fun j => decide (bh j = h ∧ ¬ l < bf j ∧ ¬ bl j < f)) k < k
      · have new : pzf (fun j => decide (bh j = h ∧ ¬ l < bf j ∧ ¬ bl j < f)) (k + 1) < k + 1 := by
          obtain ⟨j, hj, hp⟩ := pzf_lt.mp old
          exact pzf_lt.mpr ⟨j, by omega, hp⟩
        rw [if_pos old, if_pos new, if_pos rfl]
      · rw [if_neg old, if_neg (by decide)]
        have iff : pzf (fun j => decide (bh j = h ∧ ¬ l < bf j ∧ ¬ bl j < f)) (k + 1) < k + 1 ↔ (bh k = h ∧ ¬ l < bf k ∧ ¬ bl k < f) := by
          rw [pzf_lt]
          constructor
          · rintro ⟨j, hj, hp⟩
            rcases Nat.lt_or_ge j k with q | q
            · exact absurd (pzf_lt.mpr ⟨j, q, hp⟩) old
            · obtain rfl : j = k := by omega
              exact of_decide_eq_true hp
          · intro q; exact ⟨k, by omega, decide_eq_true q⟩
        by_cases c1 : bh k = h
        · rw [if_pos c1]
          by_cases c2 : l < bf k
          · rw [if_pos c2, if_neg (fun q => (iff.mp q).2.1 c2)]
          · rw [if_neg c2]
            by_cases c3 : bl k < f
            · rw [if_neg (fa_of_lt c3).2.1, if_neg (fun q => (iff.mp q).2.2 c3)]
            · rw [if_pos (fa_of_nlt c3), if_pos (iff.mpr ⟨c1, c2, c3⟩)]
        · rw [if_neg c1, if_neg (fun q => c1 (iff.mp q).1)])
    1 jFU (pz_jFU (by omega)) (by rw [if_neg (by omega)])
  unfold f_X10_isFree
  rw [show f_X10_isFree_L6 m h f l jFU 0 1 = f_X10_isFree_L6 m h f l jFU (nI 0) 1 from rfl, e, z_bind]
  rw [hs]
  by_cases c : zMt b bh bf bl h f l < b
  · rw [if_pos c]; rfl
  · rw [if_neg c]; rfl

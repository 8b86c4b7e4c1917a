/-! PURE: history: the class' ring of states and the model's past -/
theorem zRelS_ext {T : Nat} {s : SB} {m m' : Nat → Int32} (R : zRelS T s m) (em : ∀ x, x < 2048 → m' x = m x) : zRelS T s m' := by
  obtain ⟨n, P, W, L, B, D, q, b, d, H, RR, RB, RS⟩ := R
  exact ⟨n, P, W, L, B, D, q, b, d, zRH_ext H (fun _ _ => rfl) (fun _ _ => rfl) (fun _ _ => rfl) (fun _ _ => rfl) (fun _ _ => rfl) (fun _ _ => rfl) em, zRR_ext RR (fun _ _ => rfl) (fun _ _ => rfl) (fun _ _ => rfl) (fun _ _ => rfl) (fun _ _ => rfl) (fun _ _ => rfl) em, zRB_ext RB (fun _ _ => rfl) (fun _ _ => rfl) (fun _ _ => rfl) (fun _ _ => rfl) em, zRS_kept RS (fun x hx => em x (by omega))⟩
theorem x3_mark {T p : Nat} {hc rc rn bc sd sc sbc slc sfc sbr sle : Int32} {hp hw hs hb hd ht ri rb rp rt rf rl bh bb bf bl : Nat → Int32} {m : Nat → Int32} (yhs : Nat → SB) (hp9 : p < 9) (R : zRel T hc hp hw hs hb hd ht rc rn ri rb rp rt rf rl bc bh bb bf bl sd sc sbc slc sfc sbr sle m) : ∃ u : SB, f_X3_mark yhs (nI p) hc hp hw hs hb hd ht rc rn ri rb rp rt rf rl bc bh bb bf bl sd sc sbc slc sfc sbr sle = some (va_up yhs p u) ∧ zRelS T u m := by
  obtain ⟨u, e, _, e2⟩ := x8_copy ((yhs p).1) ((yhs p).2.2.2.2.2.2.2.1) ((yhs p).2.2.2.2.2.2.2.2.1) ((yhs p).2.2.2.2.2.2.2.2.2.2.2.2.2.2.2.1) ((yhs p).2.2.2.2.2.2.2.2.2.2.2.2.2.2.2.2.2.2.2.2.1) ((yhs p).2.2.2.2.2.2.2.2.2.2.2.2.2.2.2.2.2.2.2.2.2.1) ((yhs p).2.2.2.2.2.2.2.2.2.2.2.2.2.2.2.2.2.2.2.2.2.2.1) ((yhs p).2.2.2.2.2.2.2.2.2.2.2.2.2.2.2.2.2.2.2.2.2.2.2.1) ((yhs p).2.2.2.2.2.2.2.2.2.2.2.2.2.2.2.2.2.2.2.2.2.2.2.2.1) ((yhs p).2.2.2.2.2.2.2.2.2.2.2.2.2.2.2.2.2.2.2.2.2.2.2.2.2.1) ((yhs p).2.2.2.2.2.2.2.2.2.2.2.2.2.2.2.2.2.2.2.2.2.2.2.2.2.2) ((yhs p).2.1) ((yhs p).2.2.1) ((yhs p).2.2.2.1) ((yhs p).2.2.2.2.1) ((yhs p).2.2.2.2.2.1) ((yhs p).2.2.2.2.2.2.1) ((yhs p).2.2.2.2.2.2.2.2.2.1) ((yhs p).2.2.2.2.2.2.2.2.2.2.1) ((yhs p).2.2.2.2.2.2.2.2.2.2.2.1) ((yhs p).2.2.2.2.2.2.2.2.2.2.2.2.1) ((yhs p).2.2.2.2.2.2.2.2.2.2.2.2.2.1) ((yhs p).2.2.2.2.2.2.2.2.2.2.2.2.2.2.1) ((yhs p).2.2.2.2.2.2.2.2.2.2.2.2.2.2.2.2.1) ((yhs p).2.2.2.2.2.2.2.2.2.2.2.2.2.2.2.2.2.1) ((yhs p).2.2.2.2.2.2.2.2.2.2.2.2.2.2.2.2.2.2.1) ((yhs p).2.2.2.2.2.2.2.2.2.2.2.2.2.2.2.2.2.2.2.1) R (m' := m) (fun _ _ => rfl)
  refine ⟨u, ?_, e2⟩
  unfold f_X3_mark
  rw [if_pos (show jin (nI p) 9 = true by rw [z_jin (by omega)]; simp; omega), z_cl (by omega), e, z_bind]
theorem x3_revert {T p : Nat} {m m' : Nat → Int32} (yhs : Nat → SB) (hc rc rn bc sd sc sbc slc sfc sbr sle : Int32) (hp hw hs hb hd ht ri rb rp rt rf rl bh bb bf bl : Nat → Int32) (hp9 : p < 9) (R : zRelS T (yhs p) m) (em : ∀ x, x < 2048 → m' x = m x) : ∃ u : SB, f_X3_revert yhs (nI p) hc hp hw hs hb hd ht rc rn ri rb rp rt rf rl bc bh bb bf bl sd sc sbc slc sfc sbr sle = some u ∧ zRelS T u m' := by
  obtain ⟨u, e, _, e2⟩ := x8_copy hc rc rn bc sd sc sbc slc sfc sbr sle hp hw hs hb hd ht ri rb rp rt rf rl bh bb bf bl R em
  refine ⟨u, ?_, e2⟩
  unfold f_X3_revert
  rw [if_pos (show jin (nI p) 9 = true by rw [z_jin (by omega)]; simp; omega), z_cl (by omega)]
  exact e
/-! the model's copies -/
theorem x10_starts (m as0 : Nat → Int32) (th : Int32) : ∃ a, f_X10_starts m as0 th = some (a, 0) ∧ ∀ x, x < 2048 → a x = m x := by
  obtain ⟨s, hs, e⟩ := pzG (F := f_X10_starts_L7 m) (n := 2048) (fun k s => ∀ x, x < k → s x = m x)
    (fun fu s _ => by rw [f_X10_starts_L7, if_pos (by decide)])
    (fun fu k s hk hs => by
      rw [f_X10_starts_L7, if_neg (show ¬ (2048 : Int32) ≤ nI k from nI_ge (b := 2048) hk (by omega)), if_pos (show jin (nI k) 2048 = true by rw [z_jin (by omega)]; simp; omega), if_pos (show jin (nI k) 2048 = true by rw [z_jin (by omega)]; simp; omega), z_cl (by omega), nI_1]
      refine ⟨_, fun x hx => ?_, rfl⟩
      by_cases c : x = k
      · rw [c, z_upds]
      · rw [z_updn _ c]; exact hs x (by omega))
    as0 jFU (pz_jFU (by omega)) (fun x hx => by omega)
  unfold f_X10_starts
  rw [show f_X10_starts_L7 m jFU 0 as0 = _ from e, z_bind]
  exact ⟨s, rfl, hs⟩
theorem x10_putPast {c : Nat} (a past : Nat → Int32) (hc : c < 8) : ∃ p', f_X10_changed_L61 a (nI c) jFU 0 past = some (nI 2048, p') ∧ (∀ x, x < 2048 → p' (2048 * c + x) = a x) ∧ ∀ z, z < 2048 * c → p' z = past z := by
  obtain ⟨s, ⟨s1, s2⟩, e⟩ := pzG (F := f_X10_changed_L61 a (nI c)) (n := 2048) (fun k s => (∀ x, x < k → s (2048 * c + x) = a x) ∧ ∀ z, z < 2048 * c → s z = past z)
    (fun fu s _ => by rw [f_X10_changed_L61, if_pos (by decide)])
    (fun fu k s hk hs => by
      rw [f_X10_changed_L61, if_neg (show ¬ (2048 : Int32) ≤ nI k from nI_ge (b := 2048) hk (by omega)), if_pos (show jin (nI k) 2048 = true by rw [z_jin (by omega)]; simp; omega), show (2048 : Int32) * nI c + nI k = nI (2048 * c + k) by rw [z_lmul, nI_add], if_pos (show jin (nI (2048 * c + k)) 16384 = true by rw [z_jin (by omega)]; simp; omega), z_cl (by omega), z_cl (by omega), nI_1]
      refine ⟨_, ⟨fun x hx => ?_, fun z hz => ?_⟩, rfl⟩
      · by_cases q : x = k
        · rw [q, z_upds]
        · rw [z_updn _ (by omega)]; exact hs.1 x (by omega)
      · rw [z_updn _ (by omega)]; exact hs.2 z hz)
    past jFU (pz_jFU (by omega)) ⟨fun x hx => by omega, fun _ _ => rfl⟩
  exact ⟨s, e, s1, s2⟩
theorem x10_shift (past : Nat → Int32) : ∃ p', f_X10_changed_L20 jFU 0 past = some (nI 14336, p') ∧ ∀ x, x < 14336 → p' x = past (x + 2048) := by
  obtain ⟨s, ⟨s1, s2⟩, e⟩ := pzG (F := f_X10_changed_L20) (n := 14336) (fun k s => (∀ x, x < k → s x = past (x + 2048)) ∧ ∀ z, k ≤ z → s z = past z)
    (fun fu s _ => by rw [f_X10_changed_L20, if_pos (by decide)])
    (fun fu k s hk hs => by
      rw [f_X10_changed_L20, if_neg (show ¬ (14336 : Int32) ≤ nI k from nI_ge (b := 14336) hk (by omega)), z_addl, if_pos (show jin (nI (k + 2048)) 16384 = true by rw [z_jin (by omega)]; simp; omega), if_pos (show jin (nI k) 16384 = true by rw [z_jin (by omega)]; simp; omega), z_cl (show k + 2048 < 2147483648 by omega), z_cl (show k < 2147483648 by omega), nI_1]
      refine ⟨_, ⟨fun x hx => ?_, fun z hz => ?_⟩, rfl⟩
      · by_cases q : x = k
        · rw [q, z_upds]; exact hs.2 _ (by omega)
        · rw [z_updn _ q]; exact hs.1 x (by omega)
      · rw [z_updn _ (by omega)]; exact hs.2 z (by omega))
    past jFU (pz_jFU (by omega)) ⟨fun x hx => by omega, fun _ _ => rfl⟩
  exact ⟨s, e, s1⟩
/-- the past after a change: c + 1 states, or 8 -/
theorem x10_changedT {c : Nat} (a past : Nat → Int32) (v : Int32) (hc : c ≤ 8) : ∃ p', f_X10_changed a past (nI c) 0 v = some (v, p', nI (if c = 8 then 8 else c + 1)) ∧ (∀ x, x < 2048 → p' (2048 * (if c = 8 then 7 else c) + x) = a x) ∧ ∀ i x, i < (if c = 8 then 7 else c) → x < 2048 → p' (2048 * i + x) = past (2048 * (if c = 8 then i + 1 else i) + x) := by
  unfold f_X10_changed
  rw [if_pos (show (0 : Int32) ≤ 0 by decide)]
  by_cases c8 : c = 8
  · subst c8
    obtain ⟨p1, e1, f1⟩ := x10_shift past
    obtain ⟨p2, e2, f2, f3⟩ := x10_putPast (c := 7) a p1 (by omega)
    rw [if_pos (show nI 8 = (8 : Int32) from rfl), e1, z_bind]
    dsimp only
    rw [show nI 8 - 1 = nI 7 from rfl, e2, z_bind]
    refine ⟨p2, rfl, fun x hx => f2 x hx, fun i x hi hx => ?_⟩
    rw [if_pos rfl] at hi
    rw [if_pos rfl, f3 _ (by omega), f1 _ (by omega), show 2048 * i + x + 2048 = 2048 * (i + 1) + x by omega]
  · obtain ⟨p2, e2, f2, f3⟩ := x10_putPast (c := c) a past (by omega)
    rw [if_neg (show ¬ nI c = (8 : Int32) by rw [show (8 : Int32) = nI 8 from rfl, z_eq (by omega) (by omega)]; exact c8), e2, z_bind, if_neg c8, if_neg c8, nI_1]
    refine ⟨p2, rfl, f2, fun i x hi hx => ?_⟩
    rw [if_neg c8, f3 _ (by omega)]
theorem x10_changedF {th : Int32} (a past : Nat → Int32) (chg v : Int32) (h : ¬ th ≤ 0) : f_X10_changed a past chg th v = some (v, past, chg) := by
  unfold f_X10_changed
  rw [if_neg h]
/-- both histories say the same -/
def zHist (T : Nat) (yhs : Nat → SB) (ysp yct : Int32) (past : Nat → Int32) (chg : Int32) : Prop :=
  ∃ c p, c ≤ 8 ∧ p < 9 ∧ ysp = nI p ∧ yct = nI c ∧ chg = nI c ∧ ∀ i, i < c → zRelS T (yhs ((p + 8 - i) % 9)) (fun x => past (2048 * (c - 1 - i) + x))
theorem zRelS_mono {T T' : Nat} {s : SB} {m : Nat → Int32} (R : zRelS T s m) (h : T ≤ T') : zRelS T' s m := zRel_mono R h
theorem zHist_mono {T T' : Nat} {yhs : Nat → SB} {ysp yct : Int32} {past : Nat → Int32} {chg : Int32} (H : zHist T yhs ysp yct past chg) (h : T ≤ T') : zHist T' yhs ysp yct past chg := by
  obtain ⟨c, p, h1, h2, h3, h4, h5, h6⟩ := H
  exact ⟨c, p, h1, h2, h3, h4, h5, fun i hi => zRelS_mono (h6 i hi) h⟩
theorem x3_keep : ∀ p, p < 9 → ∀ c, c < 9 → f_X3_keep (nI p) (nI c) = some (nI ((p + 1) % 9), nI (if c = 8 then 8 else c + 1)) := by decide +kernel
/-- a mark alone changes nothing that history tells -/
theorem zHist_mark {T p : Nat} {yhs : Nat → SB} {yct : Int32} {past : Nat → Int32} {chg : Int32} (u : SB) (H : zHist T yhs (nI p) yct past chg) (hp9 : p < 9) : zHist T (va_up yhs p u) (nI p) yct past chg := by
  obtain ⟨c, q, h1, h2, h3, h4, h5, h6⟩ := H
  rw [z_eq (by omega) (by omega)] at h3
  subst h3
  refine ⟨c, p, h1, h2, rfl, h4, h5, fun i hi => ?_⟩
  rw [va_upn _ (show (p + 8 - i) % 9 ≠ p by omega)]
  exact h6 i hi
/-- a mark that is kept, and a change of the model -/
theorem zHist_keep {T p : Nat} {yhs : Nat → SB} {yct : Int32} {past m a : Nat → Int32} {chg : Int32} {u : SB} (H : zHist T yhs (nI p) yct past chg) (hp9 : p < 9) (U : zRelS T u m) (ea : ∀ x, x < 2048 → a x = m x) (v : Int32) : ∃ ysp' yct' past' chg', f_X3_keep (nI p) yct = some (ysp', yct') ∧ f_X10_changed a past chg 0 v = some (v, past', chg') ∧ zHist T (va_up yhs p u) ysp' yct' past' chg' := by
  obtain ⟨c, q, h1, h2, h3, h4, h5, h6⟩ := H
  rw [z_eq (by omega) (by omega)] at h3
  subst h3
  subst h4 h5
  obtain ⟨past', e1, e2, e3⟩ := x10_changedT a past v h1
  refine ⟨_, _, past', _, x3_keep p hp9 c (by omega), e1, _, _, ?_, Nat.mod_lt _ (by omega), rfl, rfl, rfl, fun i hi => ?_⟩
  · split <;> omega
  · by_cases i0 : i = 0
    · subst i0
      rw [show ((p + 1) % 9 + 8 - 0) % 9 = p by omega, va_ups]
      refine zRelS_ext U (fun x hx => ?_)
      show past' (2048 * ((if c = 8 then 8 else c + 1) - 1 - 0) + x) = m x
      rw [← ea x hx, ← e2 x hx]
      congr 3
      split <;> omega
    · have i1 : i - 1 < c := by split at hi <;> omega
      rw [va_upn _ (show ((p + 1) % 9 + 8 - i) % 9 ≠ p by split at hi <;> omega), show ((p + 1) % 9 + 8 - i) % 9 = (p + 8 - (i - 1)) % 9 by split at hi <;> omega]
      refine zRelS_ext (h6 (i - 1) i1) (fun x hx => ?_)
      show past' (2048 * ((if c = 8 then 8 else c + 1) - 1 - i) + x) = past (2048 * (c - 1 - (i - 1)) + x)
      rw [e3 ((if c = 8 then 8 else c + 1) - 1 - i) x (by split <;> split at hi <;> omega) hx]
      congr 3
      by_cases c8 : c = 8
      · rw [if_pos c8, if_pos c8]; rw [if_pos c8] at hi; omega
      · rw [if_neg c8, if_neg c8]; rw [if_neg c8] at hi; omega

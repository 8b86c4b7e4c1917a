/-! PURE: what is asked of chords -/
theorem z_15 (a : Int32) : (∃ k, 1 ≤ k ∧ k ≤ 5 ∧ a = nI k) ∨ (a < 1 ∧ ¬ (nI 1 ≤ a ∧ a ≤ nI 5)) ∨ (¬ a < 1 ∧ ¬ a ≤ 5 ∧ ¬ (nI 1 ≤ a ∧ a ≤ nI 5)) := by
  by_cases c : a < 1
  · exact Or.inr (Or.inl ⟨c, fun h => (fa_of_lt c).2.1 h.1⟩)
  · by_cases d : a ≤ 5
    · rcases z_rng a (n := 5) (by omega) with ⟨k, hk, rfl, _⟩ | ⟨h, _⟩
      · refine Or.inl ⟨k, ?_, hk, rfl⟩
        rcases Nat.lt_or_ge k 1 with q | q
        · exact absurd (show nI k < 1 from nI_lt (b := 1) q (by omega)) c
        · exact q
      · rcases h with h | h
        · exact absurd (show a < 1 by
            rw [Int32.lt_iff_toInt_lt] at h ⊢
            have e0 : (0 : Int32).toInt = 0 := by decide
            have e1 : (1 : Int32).toInt = 1 := by decide
            omega) c
        · exact absurd d (fa_of_lt h).2.1
    · exact Or.inr (Or.inr ⟨c, d, fun h => d h.2⟩)
section ZG3
variable {n T : Nat} {P W L B D : Nat → Nat} {hc : Int32} {hp hw hs hb hd ht m : Nat → Int32}
theorem z_con_rank (hP : ∀ k, k < n → P k ≤ 60) : ∀ h g, h < n → g < n → zSt L h = true → zSt L g = true → zSd (P h) (P g) = zCn n P L (fb_ct (zSt L) h) (fb_ct (zSt L) g) := by
  intro h g hh hg sh sg
  unfold zCn
  rw [zEn_of hh sh, zEn_of hg sg]
/-- the model's answer -/
theorem x10_bestChordT (H : zRH n P W L B D T hc hp hw hs hb hd ht m) (th : Int32) (pr : Nat → Int32) {a : Nat} (ha1 : 1 ≤ a) (ha5 : a ≤ 5) : ∃ pr', (a ≤ fb_ct (zSt L) n ∧ ∃ v, v ≤ 990 ∧ zMax (fb_ct (zSt L) n) a (zCn n P L) v ∧ f_X10_bestChord m th pr (nI a) = some (nI v, 0, pr')) ∨ (fb_ct (zSt L) n < a ∧ f_X10_bestChord m th pr (nI a) = some (-1, 2, pr')) := by
  obtain ⟨h1, h2, h3, h4, h5, h6, h7, h8, h9, h10⟩ := H
  obtain ⟨pr', e, epr⟩ := x10_pairs pr h1 h3 (fun k hk => ⟨(h4 k hk).1, (h6 k hk).1⟩) (fun k hk => (h6 k hk).2.2.1)
  have ct := fb_ct_le (zSt L) n
  have e0 : f_X10_bestChord m th pr (nI a) = if nI a ≤ nI (fb_ct (zSt L) n) then Option.bind (f_X10_bestChord_L121 m pr' (nI (zMsk (zSt L) n)) (nI a) jFU 0 0) (fun s23 => some (s23.2, 0, pr')) else some (-1, 2, pr') := by
    unfold f_X10_bestChord
    rw [z_inT (y := 1) (z := 5) (nI 1) (nI 5) rfl rfl ⟨nI_le ha1 (by omega), nI_le ha5 (by omega)⟩, z_bind, if_neg z_n10, e, z_bind]
    dsimp only
    rw [x10_ones (by have := zMsk_4096 (zSt L) h1; omega), z_bind, zMskPc h1]
    rfl
  refine ⟨pr', ?_⟩
  by_cases c : a ≤ fb_ct (zSt L) n
  · refine Or.inl ⟨c, ?_⟩
    obtain ⟨v, v1, v2, v3, v4⟩ := x10_chordMax (con := fun h g => zSd (P h) (P g)) h1 h3 (show a < 6 by omega) c epr (fun h g hh _ => zSd_15 _ (h4 h hh).1)
    refine ⟨v, v1, zMax_rank (z_con_rank (fun k hk => (h4 k hk).1)) v3 v4, ?_⟩
    rw [e0, if_pos (nI_le c (by omega)), v2, z_bind]
  · refine Or.inr ⟨by omega, ?_⟩
    rw [e0, if_neg (nI_ge (by omega) (by omega))]
theorem x10_bestChordF (th : Int32) (pr : Nat → Int32) {a : Int32} (h : ¬ (nI 1 ≤ a ∧ a ≤ nI 5)) : f_X10_bestChord m th pr a = some (-1, 1, pr) := by
  unfold f_X10_bestChord
  rw [z_inF (y := 1) (z := 5) (nI 1) (nI 5) rfl rfl h, z_bind, if_pos rfl]
  rfl
/-- the class' table, for a chord of a hammers -/
theorem rq_chord (H : zRH n P W L B D T hc hp hw hs hb hd ht m) (c0 : Int32) (cp cc : Nat → Int32) {a : Nat} (ha1 : 1 ≤ a) (ha5 : a ≤ 5) : ∃ cp' cc', (∀ i j, i < fb_ct (zSt L) n → j < fb_ct (zSt L) n → cc' (i * 12 + j) = nI (zCn n P L i j)) ∧ f_X9_requireChord hc hp hs c0 cp cc (nI a) = if a ≤ fb_ct (zSt L) n then some (.inr (nI (fb_ct (zSt L) n), cp', cc')) else some (.inl ("java/util/NoSuchElementException", nI (fb_ct (zSt L) n), cp', cc')) := by
  obtain ⟨h1, h2, h3, h4, h5, h6, h7, h8, h9, h10⟩ := H
  subst h2
  obtain ⟨cp', cc', e, ecc⟩ := x1_load (P := P) c0 cp cc h1 (fun k hk => ⟨(h4 k hk).1, (h5 k hk).1⟩) (fun k hk => (h5 k hk).2.2)
  have ct := fb_ct_le (zSt L) n
  refine ⟨cp', cc', ecc, ?_⟩
  unfold f_X9_requireChord f_X1_allow
  rw [if_neg (show ¬ nI a < 1 from nI_nlt (b := 1) ha1 (by omega)), if_pos (show nI a ≤ 5 from nI_le (b := 5) ha5 (by omega)), e, z_bind]
  dsimp only
  by_cases c : a ≤ fb_ct (zSt L) n
  · rw [if_neg (nI_nlt (by omega) (by omega)), z_bind, if_neg z_n10, if_pos c]
  · rw [if_pos (nI_lt (by omega) (by omega)), z_bind, if_pos rfl, if_neg c]
theorem get_chord (H : zRH n P W L B D T hc hp hw hs hb hd ht m) (th c0 c1 : Int32) (cp cc pr : Nat → Int32) (a : Int32) (out : Nat → Int64) : ∃ v c c0' c1' cp' cc' out' pr', f_L_bestChord hc hp hs c0 c1 cp cc out a = some (c, c0', c1', cp', cc', out') ∧ f_X10_bestChord m th pr a = some (v, c, pr') ∧ (c = 0 → out' 0 = v.toInt64) := by
  unfold f_L_bestChord f_X9_bestChord
  rcases z_15 a with ⟨k, k1, k5, rfl⟩ | ⟨h1, h2⟩ | ⟨h1, h2, h3⟩
  · obtain ⟨cp', cc', ecc, e⟩ := rq_chord H c0 cp cc k1 k5
    obtain ⟨pr', ⟨le, v, v1, v2, v3⟩ | ⟨le, v3⟩⟩ := x10_bestChordT H th pr k1 k5
    · obtain ⟨w, w1, w2, w3⟩ := x1_best c1 (show fb_ct (zSt L) n ≤ 12 by have := fb_ct_le (zSt L) n; have := H.1; omega) (show k < 6 by omega) le ecc (zCn_15 (fun k hk => (H.2.2.2.1 k hk).1))
      rw [e, if_pos le, z_inr, w3, z_bind, z_inr, if_pos (show jin 0 1 = true by decide), v3]
      exact ⟨_, _, _, _, _, _, _, _, rfl, rfl, fun _ => by rw [zMax_one v2 w2]; rfl⟩
    · rw [e, if_neg (by omega), z_inl, z_inl]
      dsimp only
      rw [if_neg (by decide), if_pos rfl, v3]
      exact ⟨_, _, _, _, _, _, _, _, rfl, rfl, fun h => absurd h (by decide)⟩
  · unfold f_X9_requireChord
    rw [if_pos h1, z_inl, z_inl]
    dsimp only
    rw [if_pos rfl, x10_bestChordF th pr h2]
    exact ⟨_, _, _, _, _, _, _, _, rfl, rfl, fun h => absurd h z_n10⟩
  · unfold f_X9_requireChord
    rw [if_neg h1, if_neg h2, z_inl, z_inl]
    dsimp only
    rw [if_pos rfl, x10_bestChordF th pr h3]
    exact ⟨_, _, _, _, _, _, _, _, rfl, rfl, fun h => absurd h z_n10⟩
theorem get_chordS (H : zRH n P W L B D T hc hp hw hs hb hd ht m) (th c0 : Int32) (cp cc pr : Nat → Int32) (a : Int32) (out : Nat → Int64) : ∃ v c c0' cp' cc' out' pr', f_L_bestChordBySets hc hp hs c0 cp cc out a = some (c, c0', cp', cc', out') ∧ f_X10_bestChordBySets m th pr a = some (v, c, pr') ∧ (c = 0 → out' 0 = v.toInt64) := by
  unfold f_L_bestChordBySets f_X9_bestChordBySets f_X10_bestChordBySets
  rcases z_15 a with ⟨k, k1, k5, rfl⟩ | ⟨h1, h2⟩ | ⟨h1, h2, h3⟩
  · obtain ⟨cp', cc', ecc, e⟩ := rq_chord H c0 cp cc k1 k5
    obtain ⟨pr', ⟨le, v, v1, v2, v3⟩ | ⟨le, v3⟩⟩ := x10_bestChordT H th pr k1 k5
    · obtain ⟨w, w1, w2, w3⟩ := x1_bestBySets (show fb_ct (zSt L) n ≤ 12 by have := fb_ct_le (zSt L) n; have := H.1; omega) (show k < 6 by omega) le ecc (zCn_15 (fun k hk => (H.2.2.2.1 k hk).1)) (fun i j _ _ => zCn_sym n P L i j)
      rw [e, if_pos le, z_inr, w3, z_bind, z_inr, if_pos (show jin 0 1 = true by decide), v3, z_bind]
      exact ⟨_, _, _, _, _, _, _, rfl, rfl, fun _ => by rw [zMax_one v2 w2]; rfl⟩
    · rw [e, if_neg (by omega), z_inl, z_inl]
      dsimp only
      rw [if_neg (by decide), if_pos rfl, v3, z_bind]
      exact ⟨_, _, _, _, _, _, _, rfl, rfl, fun h => absurd h (by decide)⟩
  · unfold f_X9_requireChord
    rw [if_pos h1, z_inl, z_inl]
    dsimp only
    rw [if_pos rfl, x10_bestChordF th pr h2, z_bind]
    exact ⟨_, _, _, _, _, _, _, rfl, rfl, fun h => absurd h z_n10⟩
  · unfold f_X9_requireChord
    rw [if_neg h1, if_neg h2, z_inl, z_inl]
    dsimp only
    rw [if_pos rfl, x10_bestChordF th pr h3, z_bind]
    exact ⟨_, _, _, _, _, _, _, rfl, rfl, fun h => absurd h z_n10⟩
end ZG3

/-! PURE: what is asked of racks, of the order by wear, of bookings and of requests -/
theorem x10_inT {n k : Nat} (hn : n ≤ 1000) (hk : k < n) : f_X10_in (nI k).toInt64 0 (nI n - 1).toInt64 = some 1 :=
  z_inT (y := 0) (z := (nI n - 1).toInt64) (nI 0) (nI n - 1) rfl rfl ⟨by rw [z_le (by omega) (by omega)]; omega, by rw [z_subl (by omega), z_le (by omega) (by omega)]; omega⟩
theorem x10_inF {n : Nat} {x : Int32} (hn : n ≤ 1000) (hx : x < 0 ∨ nI n ≤ x) : f_X10_in x.toInt64 0 (nI n - 1).toInt64 = some 0 :=
  z_inF (y := 0) (z := (nI n - 1).toInt64) (nI 0) (nI n - 1) rfl rfl (fun h => by
    rcases hx with hx | hx
    · exact (fa_of_lt hx).2.1 h.1
    · have h2 := h.2
      rw [Int32.le_iff_toInt_le] at h2 hx
      rw [nI_toInt (by omega)] at hx
      have : (nI n - 1).toInt = (n : Int) - 1 := pk_sub_toInt (a := n) (b := 1) (by omega) (by omega)
      omega)
section ZG2
variable {n T q b : Nat} {P W L B D : Nat → Nat} {hc rc rn bc : Int32} {hp hw hs hb hd ht ri rb rp rt rf rl bh bb bf bl m : Nat → Int32}
theorem get_hammerAt (H : zRH n P W L B D T hc hp hw hs hb hd ht m) (th a1 a2 : Int32) (out : Nat → Int64) : zSame (f_L_hammerAt ht out a1 a2) (f_X10_hammerAt m th a1 a2) := by
  obtain ⟨h1, h2, h3, h4, h5, h6, h7, h8, h9, h10⟩ := H
  unfold f_L_hammerAt f_X9_hammerAt f_X10_hammerAt
  rcases z_isRack a1 with ⟨r, hr, rfl, e9, e10⟩ | ⟨e9, e10⟩
  · rw [e9, e10, z_bind, z_bind, if_neg z_n10, if_neg z_n10]
    rcases z_isPlace a2 with ⟨p, hp6, rfl, e9, e10⟩ | ⟨e9, e10⟩
    · rw [e9, e10, z_bind, z_bind, if_neg z_n10, if_neg z_n10, x2_contentOf ht hr hp6, z_bind, x10_standing h1 h3 (fun k hk => (h6 k hk).2.2) hr hp6, z_bind, h9 _ (by omega)]
      by_cases c : zAt n L (r * 6 + p) < n
      · have e : ¬ zO n (zAt n L (r * 6 + p)) = -1 := by rw [zO_m1 h1]; omega
        rw [if_neg e, if_neg e, z_inr, if_pos (show jin 0 1 = true by decide)]
        exact zSame_val out _
      · have e : zO n (zAt n L (r * 6 + p)) = -1 := by rw [zO_m1 h1]; omega
        rw [if_pos e, if_pos e, z_inl, if_neg (by decide), if_pos rfl]
        exact zSame_err (-1) (by decide)
    · rw [e9, e10, z_bind, z_bind, if_pos rfl, if_pos rfl, z_inl, if_pos rfl]
      exact zSame_err (-1) z_n10
  · rw [e9, e10, z_bind, z_bind, if_pos rfl, if_pos rfl, z_inl, if_pos rfl]
    exact zSame_err (-1) z_n10
theorem get_loudness (H : zRH n P W L B D T hc hp hw hs hb hd ht m) (th a1 a2 : Int32) (out : Nat → Int64) : zSame (f_L_loudness hc hp ht out a1 a2) (f_X10_loudness m th a1 a2) := by
  obtain ⟨h1, h2, h3, h4, h5, h6, h7, h8, h9, h10⟩ := H
  subst h2
  unfold f_L_loudness f_X9_loudness f_X10_loudness
  rcases rq_rack a1 with ⟨r, hr, rfl, e9, e10⟩ | ⟨e9, e10⟩
  · rw [e9, z_inr, e10, z_bind, if_neg z_n10]
    rcases z_rng a2 (n := 84) (by omega) with ⟨x, hx, rfl, hin⟩ | ⟨hout, hin⟩
    · rw [x1_loudOf h1 (fun k hk => ⟨(h4 k hk).1, (h5 k hk).1⟩) h9 h10 hr hx, z_bind, z_inr, if_pos (show jin 0 1 = true by decide), z_inT (y := 0) (z := 84) (nI 0) (nI 84) rfl rfl hin, z_bind, if_neg z_n10, x10_loudIn h1 h3 (fun k hk => ⟨(h4 k hk).1, (h6 k hk).1, (h6 k hk).2.2.1⟩) hr hx, z_bind]
      exact zSame_val out _
    · have : f_X1_loudnessOf (nI n) hp ht (nI r) a2 = some 0 := by
        unfold f_X1_loudnessOf
        exact z_outL (n := 84) (y := 84) rfl hout _ _
      rw [this, z_bind, z_inr, if_pos (show jin 0 1 = true by decide), z_inF (y := 0) (z := 84) (nI 0) (nI 84) rfl rfl hin, z_bind, if_pos rfl]
      exact zSame_val out _
  · rw [e9, z_inl, z_inl, if_pos rfl, e10, z_bind, if_pos rfl]
    exact zSame_err (-1) z_n10
theorem get_loudest (H : zRH n P W L B D T hc hp hw hs hb hd ht m) (th a1 : Int32) (out : Nat → Int64) : zSame (f_L_loudestPitch hc hp ht out a1) (f_X10_loudestPitch m th a1) := by
  obtain ⟨h1, h2, h3, h4, h5, h6, h7, h8, h9, h10⟩ := H
  subst h2
  unfold f_L_loudestPitch f_X9_loudestPitch f_X10_loudestPitch
  rcases rq_rack a1 with ⟨r, hr, rfl, e9, e10⟩ | ⟨e9, e10⟩
  · have mn := x10_many (x := nI r) (fun l => decide (l < 18 ∧ l / 6 = r)) h1 h3 (fun k hk => (h6 k hk).2.2.1) (fun l => by rw [zR_eq hr]; exact propext decide_eq_true_iff.symm)
    have k1 := fb_ct_le (fun p => decide (zAt n L (r * 6 + p) < n)) 6
    have k2 := fb_ct_le (fun k => decide (L k < 18 ∧ L k / 6 = r)) n
    rw [e9, z_inr, e10, z_bind, if_neg z_n10, x2_countIn h1 hr h9, z_bind, mn, z_bind]
    by_cases c : 0 < fb_ct (fun k => decide (L k < 18 ∧ L k / 6 = r)) n
    · have d : 0 < fb_ct (fun p => decide (zAt n L (r * 6 + p) < n)) 6 := by
        obtain ⟨k, hk, q⟩ := fb_ct_pos.mp c
        have q := of_decide_eq_true q
        refine fb_ct_pos.mpr ⟨L k % 6, Nat.mod_lt _ (by omega), decide_eq_true ?_⟩
        rw [← zIn_place (zIn_iff.mpr q), zAt_of h10 hk q.1]; exact hk
      have l1 := x10_loudest h1 h3 (fun k hk => ⟨(h4 k hk).1, (h6 k hk).1, (h6 k hk).2.2.1⟩) hr
      rw [if_neg (show ¬ nI (fb_ct (fun p => decide (zAt n L (r * 6 + p) < n)) 6) = 0 from fun e => by rw [show (0 : Int32) = nI 0 from rfl, z_eq (by omega) (by omega)] at e; omega), if_neg (show ¬ nI (fb_ct (fun k => decide (L k < 18 ∧ L k / 6 = r)) n) = 0 from fun e => by rw [show (0 : Int32) = nI 0 from rfl, z_eq (by omega) (by omega)] at e; omega), x1_loudest h1 (fun k hk => ⟨(h4 k hk).1, (h5 k hk).1⟩) h9 h10 hr, z_bind, z_inr, if_pos (show jin 0 1 = true by decide), l1]
      exact zSame_val out _
    · have d : ¬ 0 < fb_ct (fun p => decide (zAt n L (r * 6 + p) < n)) 6 := by
        intro d
        obtain ⟨p, hp6, q⟩ := fb_ct_pos.mp d
        have q := of_decide_eq_true q
        exact c (fb_ct_pos.mpr ⟨_, q, decide_eq_true (zIn_iff.mp (zIn_at hr hp6 q))⟩)
      rw [if_pos (show nI (fb_ct (fun p => decide (zAt n L (r * 6 + p) < n)) 6) = 0 by rw [show fb_ct (fun p => decide (zAt n L (r * 6 + p) < n)) 6 = 0 by omega]; rfl), if_pos (show nI (fb_ct (fun k => decide (L k < 18 ∧ L k / 6 = r)) n) = 0 by rw [show fb_ct (fun k => decide (L k < 18 ∧ L k / 6 = r)) n = 0 by omega]; rfl), z_inl, if_neg (by decide), if_pos rfl]
      exact zSame_err (-1) (by decide)
  · rw [e9, z_inl, z_inl, if_pos rfl, e10, z_bind, if_pos rfl]
    exact zSame_err (-1) z_n10
theorem get_consonance (H : zRH n P W L B D T hc hp hw hs hb hd ht m) (th a1 a2 : Int32) (out : Nat → Int64) : zSame (f_L_consonance hc hp out a1 a2) (f_X10_consonance m th a1 a2) := by
  have r2 := rq_hammer H a2
  have r1 := rq_hammer H a1
  obtain ⟨h1, h2, h3, h4, h5, h6, h7, h8, h9, h10⟩ := H
  subst h2
  unfold f_L_consonance f_X9_consonance f_X10_consonance
  rcases r1 with ⟨k, hk, rfl, e1, e2⟩ | ⟨e1, e2⟩
  · rcases r2 with ⟨j, hj, rfl, f1, f2⟩ | ⟨f1, f2⟩
    · rw [e1, z_inr, f1, z_inr, x2_pitchOf hp h1 hk, z_bind, x2_pitchOf hp h1 hj, z_bind, (h5 k hk).1, (h5 j hj).1, x1_between (h4 k hk).1 (h4 j hj).1, z_bind, z_inr, if_pos (show jin 0 1 = true by decide), e2, z_bind, if_neg z_n10, f2, z_bind, if_neg z_n10, x10_sound h1 (fun k hk => ⟨(h4 k hk).1, (h6 k hk).1⟩) hk hj, z_bind]
      exact zSame_val out _
    · rw [e1, z_inr, f1, z_inl, z_inl, if_pos rfl, e2, z_bind, if_neg z_n10, f2, z_bind, if_pos rfl]
      exact zSame_err (-1) z_n10
  · rw [e1, z_inl, z_inl, if_pos rfl, e2, z_bind, if_pos rfl]
    exact zSame_err (-1) z_n10
theorem get_swaps (H : zRH n P W L B D T hc hp hw hs hb hd ht m) (th a1 : Int32) (out : Nat → Int64) : zSame (f_L_swapsToSort hc hp ht out a1) (f_X10_swapsToSort m th a1) := by
  unfold f_L_swapsToSort f_X9_swapsToSort f_X10_swapsToSort
  rcases rq_rack a1 with ⟨r, hr, rfl, e9, e10⟩ | ⟨e9, e10⟩
  · obtain ⟨c1, c2, c3, c4, _⟩ := zRH_code H hr
    obtain ⟨h1, h2, h3, h4, h5, h6, h7, h8, h9, h10⟩ := H
    subst h2
    rw [e9, z_inr, c1, z_bind, c2, z_bind, z_inr, if_pos (show jin 0 1 = true by decide), e10, z_bind, if_neg z_n10, c4, z_bind]
    exact zSame_val out _
  · rw [e9, z_inl, z_inl, if_pos rfl, e10, z_bind, if_pos rfl]
    exact zSame_err (-1) z_n10
theorem get_swapsC (H : zRH n P W L B D T hc hp hw hs hb hd ht m) (th a1 : Int32) (out : Nat → Int64) : zSame (f_L_swapsToSortByCycles hc hp ht out a1) (f_X10_swapsToSortByCycles m th a1) := by
  unfold f_L_swapsToSortByCycles f_X9_swapsToSortByCycles f_X10_swapsToSortByCycles f_X10_swapsToSort
  rcases rq_rack a1 with ⟨r, hr, rfl, e9, e10⟩ | ⟨e9, e10⟩
  · obtain ⟨c1, c2, c3, c4, _⟩ := zRH_code H hr
    obtain ⟨h1, h2, h3, h4, h5, h6, h7, h8, h9, h10⟩ := H
    subst h2
    rw [e9, z_inr, c1, z_bind, c3, z_bind, z_inr, if_pos (show jin 0 1 = true by decide), e10, z_bind, if_neg z_n10, c4, z_bind, z_bind]
    exact zSame_val out _
  · rw [e9, z_inl, z_inl, if_pos rfl, e10, z_bind, if_pos rfl]
    exact zSame_err (-1) z_n10
theorem get_byWear (H : zRH n P W L B D T hc hp hw hs hb hd ht m) (th a1 : Int32) (out : Nat → Int64) : zSame (f_L_hammerByWear hc hp hw out a1) (f_X10_hammerByWear m th a1) := by
  obtain ⟨h1, h2, h3, h4, h5, h6, h7, h8, h9, h10⟩ := H
  subst h2
  unfold f_L_hammerByWear f_X9_hammerByWear
  rw [x2_byWear a1 h1 (fun k hk => ⟨(h4 k hk).1, (h5 k hk).1⟩) (fun k hk => ⟨(h4 k hk).2.1, (h5 k hk).2.1⟩), z_bind, x10_hammerByWear th a1 h1 h3 (fun k hk => ⟨(h4 k hk).1, (h6 k hk).1⟩) (fun k hk => ⟨(h4 k hk).2.1, (h6 k hk).2.1⟩)]
  by_cases c : pzf (fun k => decide (nI (zRank P W n k) = a1)) n < n
  · rw [if_neg (show ¬ zO n (pzf (fun k => decide (nI (zRank P W n k) = a1)) n) = -1 by rw [zO_m1 h1]; omega), if_pos c, z_inr, if_pos (show jin 0 1 = true by decide), show zO n (pzf (fun k => decide (nI (zRank P W n k) = a1)) n) = nI (pzf (fun k => decide (nI (zRank P W n k) = a1)) n) by unfold zO; rw [if_pos c]]
    exact zSame_val out _
  · rw [if_pos (show zO n (pzf (fun k => decide (nI (zRank P W n k) = a1)) n) = -1 by rw [zO_m1 h1]; omega), if_neg c, z_inl, if_pos rfl]
    exact zSame_err (-1) z_n10
theorem get_bookings (H : zRH n P W L B D T hc hp hw hs hb hd ht m) (G : zRB b n T bc bh bb bf bl m) (th a1 : Int32) (out : Nat → Int64) : zSame (f_L_bookings hc bc bh out a1) (f_X10_bookings m th a1) := by
  have r1 := rq_hammer H a1
  obtain ⟨b1, b2, b3, b6, b7⟩ := G
  subst b2
  unfold f_L_bookings f_X9_bookings f_X10_bookings
  rcases r1 with ⟨k, hk, rfl, e1, e2⟩ | ⟨e1, e2⟩
  · obtain ⟨s, hs', e⟩ := pzG (F := f_X10_bookings_L23 m (nI k)) (n := b) (fun i s => s = nI (fb_ct (fun j => decide (bh j = nI k)) i))
      (fun fu s _ => by rw [f_X10_bookings_L23, if_pos (by decide), show (5 : Int32).toNatClampNeg = 5 from rfl, b3, if_pos (nI_le (Nat.le_refl _) (by omega))])
      (fun fu i s hi hs' => by
        refine ⟨_, rfl, ?_⟩
        rw [f_X10_bookings_L23, if_pos (by decide), show (5 : Int32).toNatClampNeg = 5 from rfl, b3, if_neg (nI_ge hi (by omega)), x10_bookingOf, z_bind, if_pos (by rw [z_jin (by omega)]; simp; omega), z_cl (by omega), (b6 i hi).1, nI_1, hs', fb_ct_succ]
        by_cases c : bh i = nI k
        · rw [if_pos c, if_pos (decide_eq_true c), nI_1]
        · rw [if_neg c, if_neg (show ¬ decide (bh i = nI k) = true by rw [decide_eq_true_eq]; exact c), Int32.add_zero]
          rfl)
      (nI 0) jFU (pz_jFU (by omega)) rfl
    rw [e1, z_inr, x0_countOf bh (nI k) b1, z_bind, z_inr, if_pos (show jin 0 1 = true by decide), e2, z_bind, if_neg z_n10, show f_X10_bookings_L23 m (nI k) jFU 0 0 = _ from e, z_bind, hs']
    exact zSame_val out _
  · rw [e1, z_inl, z_inl, if_pos rfl, e2, z_bind, if_pos rfl]
    exact zSame_err (-1) z_n10
theorem get_isBooked (H : zRH n P W L B D T hc hp hw hs hb hd ht m) (G : zRB b n T bc bh bb bf bl m) (th a1 a2 : Int32) (out : Nat → Int64) : zSame (f_L_isBooked hc bc bh bf bl out a1 a2) (f_X10_isBooked m th a1 a2) := by
  have r1 := rq_hammer H a1
  obtain ⟨b1, b2, b3, b6, b7⟩ := G
  subst b2
  unfold f_L_isBooked f_X9_isBooked f_X10_isBooked
  rcases r1 with ⟨k, hk, rfl, e1, e2⟩ | ⟨e1, e2⟩
  · rw [e1, z_inr, x0_meets bh bf bl (nI k) a2 a2 b1, z_bind, e2, z_bind, if_neg z_n10, x10_isFree (nI k) a2 a2 b1 b3 b6, z_bind]
    by_cases c : zMt b bh bf bl (nI k) a2 a2 < b
    · rw [if_pos c, if_pos (Or.inr rfl), z_inr, if_neg z_n10, if_pos (show jin 0 1 = true by decide), if_pos (show (if zMt b bh bf bl (nI k) a2 a2 < b then (0 : Int32) else 1) = 0 by rw [if_pos c])]
      exact zSame_val out 1
    · rw [if_neg c, if_pos (Or.inl rfl), z_inr, if_pos rfl, if_pos (show jin 0 1 = true by decide), if_neg (show ¬ (if zMt b bh bf bl (nI k) a2 a2 < b then (0 : Int32) else 1) = 0 by rw [if_neg c]; decide)]
      exact zSame_val out 0
  · rw [e1, z_inl, z_inl, if_pos rfl, e2, z_bind, if_pos rfl]
    exact zSame_err 0 z_n10
theorem get_requestAt (R : zRR q T rc rn ri rb rp rt rf rl m) (th a1 : Int32) (out : Nat → Int64) : zSame (f_L_requestAt rc ri out a1) (f_X10_requestAt m th a1) := by
  obtain ⟨r1, r2, r3, r4, r5, r6, r7⟩ := R
  subst r2
  unfold f_L_requestAt f_X9_requestAt f_X10_requestAt
  rw [if_pos (show jin 4 2048 = true by decide), show (4 : Int32).toNatClampNeg = 4 from rfl, r3]
  rcases z_arg a1 (n := q) (by omega) with ⟨k, hk, rfl⟩ | hout
  · rw [x5_hasT r1 hk, z_bind, if_neg z_n10, x5_idAt ri r1 hk, z_bind, z_inr, if_pos (show jin 0 1 = true by decide), x10_inT (by omega) hk, z_bind, if_neg z_n10, x10_requestOf, z_bind, if_pos (by rw [z_jin (by omega)]; simp; omega), z_cl (by omega), (r6 k hk).1]
    exact zSame_val out _
  · rw [x5_hasF hout, z_bind, if_pos rfl, z_inl, if_pos rfl, x10_inF (by omega) hout, z_bind, if_pos rfl]
    exact zSame_err (-1) z_n10
theorem rq_pos (R : zRR q T rc rn ri rb rp rt rf rl m) (a : Int32) : (∃ k, k < q ∧ f_X9_requiredPosition rc ri a = some (.inr (nI k)) ∧ f_X10_find m a = some (nI k)) ∨ (f_X9_requiredPosition rc ri a = some (.inl "java/util/NoSuchElementException") ∧ f_X10_find m a = some (-1)) := by
  obtain ⟨r1, r2, r3, r4, r5, r6, r7⟩ := R
  subst r2
  unfold f_X9_requiredPosition
  rw [x5_positionOf ri a r1, z_bind, x10_find a r1 r3 (fun k hk => (r6 k hk).1)]
  by_cases c : pzf (fun k => decide (ri k = a)) q < q
  · have e : zO q (pzf (fun k => decide (ri k = a)) q) = nI (pzf (fun k => decide (ri k = a)) q) := by unfold zO; rw [if_pos c]
    rw [if_neg (show ¬ zO q (pzf (fun k => decide (ri k = a)) q) = -1 by rw [zO_m1 (by omega)]; omega), e]
    exact Or.inl ⟨_, c, rfl, rfl⟩
  · have e : zO q (pzf (fun k => decide (ri k = a)) q) = -1 := by rw [zO_m1 (by omega)]; omega
    rw [if_pos e, e]
    exact Or.inr ⟨rfl, rfl⟩
theorem get_fits (H : zRH n P W L B D T hc hp hw hs hb hd ht m) (R : zRR q T rc rn ri rb rp rt rf rl m) (G : zRB b n T bc bh bb bf bl m) (th a1 a2 : Int32) (out : Nat → Int64) : zSame (f_L_fits hc hp hw hs hd rc ri rp rt rf rl bc bh bf bl out a1 a2) (f_X10_fits m th a1 a2) := by
  have p1 := rq_pos R a1
  have p2 := rq_hammer H a2
  unfold f_L_fits f_X9_fits f_X10_fits
  rcases p1 with ⟨k, hk, e1, e2⟩ | ⟨e1, e2⟩
  · rcases p2 with ⟨h, hh, rfl, f1, f2⟩ | ⟨f1, f2⟩
    · have my := x10_may H R G hk hh
      obtain ⟨h1, h2, _⟩ := H
      obtain ⟨r1, r2, _⟩ := R
      obtain ⟨b1, b2, _⟩ := G
      subst h2 r2 b2
      rw [e1, z_inr, f1, z_inr, x8_suits hp hw hs hd rp rt rf rl bh bf bl h1 r1 b1 hk hh, z_bind, e2, z_bind, if_neg (show ¬ nI k = -1 by rw [z_m1 (by omega)]; exact id), f2, z_bind, if_neg z_n10, z_bind, my, z_bind]
      by_cases c : zMay hp hw hs hd rp rt rf rl b bh bf bl k h = true
      · rw [if_pos c, if_pos (Or.inr rfl), z_inr, if_neg z_n10, if_pos (show jin 0 1 = true by decide), if_neg z_n10]
        exact zSame_val out 1
      · rw [if_neg c, if_pos (Or.inl rfl), z_inr, if_pos rfl, if_pos (show jin 0 1 = true by decide), if_pos rfl]
        exact zSame_val out 0
    · rw [e1, z_inr, f1, z_inl, z_inl, if_neg (by decide), if_pos rfl, e2, z_bind, if_neg (show ¬ nI k = -1 by rw [z_m1 (by have := R.1; omega)]; exact id), f2, z_bind, if_pos rfl]
      exact zSame_err 0 (by decide)
  · rw [e1, z_inl, z_inl, if_pos rfl, e2, z_bind, if_pos rfl]
    exact zSame_err 0 z_n10
theorem get_best (H : zRH n P W L B D T hc hp hw hs hb hd ht m) (R : zRR q T rc rn ri rb rp rt rf rl m) (G : zRB b n T bc bh bb bf bl m) (th a1 : Int32) (out : Nat → Int64) : zSame (f_L_bestHammer hc hp hw hs hd rc ri rp rt rf rl bc bh bf bl out a1) (f_X10_bestHammer m th a1) := by
  have p1 := rq_pos R a1
  unfold f_L_bestHammer f_X9_bestHammer f_X10_bestHammer
  rcases p1 with ⟨k, hk, e1, e2⟩ | ⟨e1, e2⟩
  · obtain ⟨w, p, d, _, p60, _, _, hpk, _⟩ := R.2.2.2.2.2.2 k hk
    have n12 := H.1
    have v1 := x8_bestFor H R G hk hpk p60
    have v2 := x10_best H R G hk hpk p60
    rw [e1, z_inr, v1, z_bind, e2, z_bind, if_neg (show ¬ nI k = -1 by rw [z_m1 (by have := R.1; omega)]; exact id), v2, z_bind]
    cases eb : zBst (fun h => zMay hp hw hs hd rp rt rf rl b bh bf bl k h) (zKey P W p) n with
    | none =>
      rw [if_pos (show zOp none = -1 from rfl), if_pos (show zOp none = -1 from rfl), z_inl, if_pos rfl]
      exact zSame_err (-1) z_n10
    | some j =>
      have jn := (zBst_lt _ _ _ _ eb).1
      have e : ¬ zOp (some j) = -1 := show ¬ nI j = -1 by rw [z_m1 (by omega)]; exact id
      rw [if_neg e, if_neg e, z_inr, if_pos (show jin 0 1 = true by decide)]
      exact zSame_val out _
  · rw [e1, z_inl, z_inl, if_pos rfl, e2, z_bind, if_pos rfl]
    exact zSame_err (-1) z_n10
end ZG2

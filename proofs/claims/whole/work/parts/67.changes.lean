/-! PURE: the class' changes with their history, as the law asks them -/
theorem st_1 (a b : Int32) : f_X9_settled a b (-1) = some (.inl ("java/lang/IllegalArgumentException", a, b)) := rfl
theorem st_2 (a b : Int32) : f_X9_settled a b (-2) = some (.inl ("java/lang/IndexOutOfBoundsException", a, b)) := rfl
theorem st_3 (a b : Int32) : f_X9_settled a b (-3) = some (.inl ("java/lang/IllegalStateException", a, b)) := rfl
theorem st_4 (a b : Int32) : f_X9_settled a b (-4) = some (.inl ("java/util/NoSuchElementException", a, b)) := rfl
theorem st_5 (a b : Int32) : f_X9_settled a b (-5) = some (.inl ("java/lang/UnsupportedOperationException", a, b)) := rfl
theorem nI_nneg {j : Nat} (h : j < 1000000) (x : Int32) (hx : x < 0) : ¬ nI j = x := by
  intro e
  rw [← e] at hx
  exact nI_pos (by omega) hx
theorem st_0 {a b a' b' : Int32} {j : Nat} (h : j < 1000000) (k : f_X3_keep a b = some (a', b')) : f_X9_settled a b (nI j) = some (.inr (nI j, a', b')) := by
  unfold f_X9_settled
  rw [if_neg (nI_nneg h _ (by decide)), if_neg (nI_nneg h _ (by decide)), if_neg (nI_nneg h _ (by decide)), if_neg (nI_nneg h _ (by decide)), if_neg (nI_nneg h _ (by decide)), k, z_bind]
theorem do_addHammer {T : Nat} {hc rc rn bc sd sc sbc slc sfc sbr sle : Int32} {hp hw hs hb hd ht ri rb rp rt rf rl bh bb bf bl : Nat → Int32} {m past : Nat → Int32} {yhs : Nat → SB} {ysp yct chg : Int32} (R : zRel T hc hp hw hs hb hd ht rc rn ri rb rp rt rf rl bc bh bb bf bl sd sc sbc slc sfc sbr sle m) (Y : zHist T yhs ysp yct past chg) (as0 : Nat → Int32) (th a1 a2 : Int32) (out : Nat → Int64) :
    ∃ v c hc' hp' hw' hs' ht' yhs' ysp' yct' out' m' as' past' chg', f_L_addHammer hc hp hw hs hb hd ht rc rn ri rb rp rt rf rl bc bh bb bf bl sd sc sbc slc sfc sbr sle yhs ysp yct out a1 a2 = some (c, hc', hp', hw', hs', ht', yhs', ysp', yct', out') ∧ f_X10_addHammer m as0 past chg th a1 a2 = some (v, m', as', past', chg', c) ∧ (c = 0 → out' 0 = v.toInt64) ∧ zRel T hc' hp' hw' hs' hb hd ht' rc rn ri rb rp rt rf rl bc bh bb bf bl sd sc sbc slc sfc sbr sle m' ∧ zHist T yhs' ysp' yct' past' chg' := by
  have Y0 := Y
  obtain ⟨c0, p, y1, hp9, ye, yr⟩ := Y
  subst ye
  obtain ⟨u, e1, e2⟩ := x3_mark yhs hp9 R
  obtain ⟨as', e3, e4⟩ := x10_starts m as0 th
  unfold f_L_addHammer f_X9_addHammer f_X10_addHammer
  rw [e1, z_bind, e3, z_bind]
  dsimp only
  rcases op_enlist R 0 a1 a2 with ⟨c, th', hcc, e5, e6⟩ | ⟨j, hc', hp', hw', hs', ht', m', hj, e5, e6, R'⟩
  · rw [e5, z_bind, e6, z_bind]
    rcases hcc with ⟨rfl, rfl⟩ | ⟨rfl, rfl⟩ | ⟨rfl, rfl⟩
    · dsimp only
      rw [st_1, z_inl, z_inl]
      dsimp only
      rw [if_pos rfl, x10_changedF _ _ _ _ (by decide), z_bind]
      exact ⟨_, _, _, _, _, _, _, _, _, _, _, _, _, _, _, rfl, rfl, fun h => absurd h (by decide), R, (zHist_mark u Y0 hp9)⟩
    · dsimp only
      rw [st_2, z_inl, z_inl]
      dsimp only
      rw [if_neg (by decide), if_pos rfl, x10_changedF _ _ _ _ (by decide), z_bind]
      exact ⟨_, _, _, _, _, _, _, _, _, _, _, _, _, _, _, rfl, rfl, fun h => absurd h (by decide), R, (zHist_mark u Y0 hp9)⟩
    · dsimp only
      rw [st_3, z_inl, z_inl]
      dsimp only
      rw [if_neg (by decide), if_neg (by decide), if_pos rfl, x10_changedF _ _ _ _ (by decide), z_bind]
      exact ⟨_, _, _, _, _, _, _, _, _, _, _, _, _, _, _, rfl, rfl, fun h => absurd h (by decide), R, (zHist_mark u Y0 hp9)⟩
  · obtain ⟨ysp', yct', past', chg', k1, k2, k3⟩ := zHist_keep Y0 hp9 e2 e4 (nI j)
    rw [e5, z_bind, e6, z_bind]
    dsimp only
    rw [st_0 (show j < 1000000 by omega) k1, z_inr, z_inr, if_pos (show jin 0 1 = true by decide), k2, z_bind]
    exact ⟨_, _, _, _, _, _, _, _, _, _, _, _, _, _, _, rfl, rfl, fun _ => rfl, R', k3⟩
theorem do_moveHammer {T : Nat} {hc rc rn bc sd sc sbc slc sfc sbr sle : Int32} {hp hw hs hb hd ht ri rb rp rt rf rl bh bb bf bl : Nat → Int32} {m past : Nat → Int32} {yhs : Nat → SB} {ysp yct chg : Int32} (R : zRel T hc hp hw hs hb hd ht rc rn ri rb rp rt rf rl bc bh bb bf bl sd sc sbc slc sfc sbr sle m) (Y : zHist T yhs ysp yct past chg) (as0 : Nat → Int32) (th a1 a2 : Int32) (out : Nat → Int64) :
    ∃ v c hs' ht' yhs' ysp' yct' out' m' as' past' chg', f_L_moveHammer hc hp hw hs hb hd ht rc rn ri rb rp rt rf rl bc bh bb bf bl sd sc sbc slc sfc sbr sle yhs ysp yct out a1 a2 = some (c, hs', ht', yhs', ysp', yct', out') ∧ f_X10_moveHammer m as0 past chg th a1 a2 = some (v, m', as', past', chg', c) ∧ (c = 0 → out' 0 = v.toInt64) ∧ zRel T hc hp hw hs' hb hd ht' rc rn ri rb rp rt rf rl bc bh bb bf bl sd sc sbc slc sfc sbr sle m' ∧ zHist T yhs' ysp' yct' past' chg' := by
  have Y0 := Y
  obtain ⟨c0, p, y1, hp9, ye, yr⟩ := Y
  subst ye
  obtain ⟨u, e1, e2⟩ := x3_mark yhs hp9 R
  obtain ⟨as', e3, e4⟩ := x10_starts m as0 th
  unfold f_L_moveHammer f_X9_moveHammer f_X10_moveHammer
  rw [e1, z_bind, e3, z_bind]
  dsimp only
  rcases op_carry R 0 a1 a2 with ⟨c, th', hcc, e5, e6⟩ | ⟨j, hs', ht', m', hj, e5, e6, R'⟩
  · rw [e5, z_bind, e6, z_bind]
    rcases hcc with ⟨rfl, rfl⟩ | ⟨rfl, rfl⟩
    · dsimp only
      rw [st_2, z_inl, z_inl]
      dsimp only
      rw [if_pos rfl, x10_changedF _ _ _ _ (by decide), z_bind]
      exact ⟨_, _, _, _, _, _, _, _, _, _, _, _, rfl, rfl, fun h => absurd h (by decide), R, (zHist_mark u Y0 hp9)⟩
    · dsimp only
      rw [st_3, z_inl, z_inl]
      dsimp only
      rw [if_neg (by decide), if_pos rfl, x10_changedF _ _ _ _ (by decide), z_bind]
      exact ⟨_, _, _, _, _, _, _, _, _, _, _, _, rfl, rfl, fun h => absurd h (by decide), R, (zHist_mark u Y0 hp9)⟩
  · obtain ⟨ysp', yct', past', chg', k1, k2, k3⟩ := zHist_keep Y0 hp9 e2 e4 (nI j)
    rw [e5, z_bind, e6, z_bind]
    dsimp only
    rw [st_0 (show j < 1000000 by omega) k1, z_inr, z_inr, if_pos (show jin 0 1 = true by decide), k2, z_bind]
    exact ⟨_, _, _, _, _, _, _, _, _, _, _, _, rfl, rfl, fun _ => rfl, R', k3⟩
theorem do_swapPlaces {T : Nat} {hc rc rn bc sd sc sbc slc sfc sbr sle : Int32} {hp hw hs hb hd ht ri rb rp rt rf rl bh bb bf bl : Nat → Int32} {m past : Nat → Int32} {yhs : Nat → SB} {ysp yct chg : Int32} (R : zRel T hc hp hw hs hb hd ht rc rn ri rb rp rt rf rl bc bh bb bf bl sd sc sbc slc sfc sbr sle m) (Y : zHist T yhs ysp yct past chg) (as0 : Nat → Int32) (th a1 a2 a3 : Int32) (out : Nat → Int64) :
    ∃ v c hs' ht' yhs' ysp' yct' out' m' as' past' chg', f_L_swapPlaces hc hp hw hs hb hd ht rc rn ri rb rp rt rf rl bc bh bb bf bl sd sc sbc slc sfc sbr sle yhs ysp yct out a1 a2 a3 = some (c, hs', ht', yhs', ysp', yct', out') ∧ f_X10_swapPlaces m as0 past chg th a1 a2 a3 = some (v, m', as', past', chg', c) ∧ (c = 0 → out' 0 = v.toInt64) ∧ zRel T hc hp hw hs' hb hd ht' rc rn ri rb rp rt rf rl bc bh bb bf bl sd sc sbc slc sfc sbr sle m' ∧ zHist T yhs' ysp' yct' past' chg' := by
  have Y0 := Y
  obtain ⟨c0, p, y1, hp9, ye, yr⟩ := Y
  subst ye
  obtain ⟨u, e1, e2⟩ := x3_mark yhs hp9 R
  obtain ⟨as', e3, e4⟩ := x10_starts m as0 th
  unfold f_L_swapPlaces f_X9_swapPlaces f_X10_swapPlaces
  rw [e1, z_bind, e3, z_bind]
  dsimp only
  rcases op_exchange R 0 a1 a2 a3 with ⟨c, th', hcc, e5, e6⟩ | ⟨j, hs', ht', m', hj, e5, e6, R'⟩
  · rw [e5, z_bind, e6, z_bind]
    rcases hcc with ⟨rfl, rfl⟩ | ⟨rfl, rfl⟩
    · dsimp only
      rw [st_2, z_inl, z_inl]
      dsimp only
      rw [if_pos rfl, x10_changedF _ _ _ _ (by decide), z_bind]
      exact ⟨_, _, _, _, _, _, _, _, _, _, _, _, rfl, rfl, fun h => absurd h (by decide), R, (zHist_mark u Y0 hp9)⟩
    · dsimp only
      rw [st_1, z_inl, z_inl]
      dsimp only
      rw [if_neg (by decide), if_pos rfl, x10_changedF _ _ _ _ (by decide), z_bind]
      exact ⟨_, _, _, _, _, _, _, _, _, _, _, _, rfl, rfl, fun h => absurd h (by decide), R, (zHist_mark u Y0 hp9)⟩
  · obtain ⟨ysp', yct', past', chg', k1, k2, k3⟩ := zHist_keep Y0 hp9 e2 e4 (nI j)
    rw [e5, z_bind, e6, z_bind]
    dsimp only
    rw [st_0 (show j < 1000000 by omega) k1, z_inr, z_inr, if_pos (show jin 0 1 = true by decide), k2, z_bind]
    exact ⟨_, _, _, _, _, _, _, _, _, _, _, _, rfl, rfl, fun _ => rfl, R', k3⟩
theorem do_request {T : Nat} {hc rc rn bc sd sc sbc slc sfc sbr sle : Int32} {hp hw hs hb hd ht ri rb rp rt rf rl bh bb bf bl : Nat → Int32} {m past : Nat → Int32} {yhs : Nat → SB} {ysp yct chg : Int32} (R : zRel T hc hp hw hs hb hd ht rc rn ri rb rp rt rf rl bc bh bb bf bl sd sc sbc slc sfc sbr sle m) (Y : zHist T yhs ysp yct past chg) (hT : T < 1000000) (as0 : Nat → Int32) (th a1 a2 a3 a4 a5 : Int32) (out : Nat → Int64) :
    ∃ v c rc' rn' ri' rb' rp' rt' rf' rl' yhs' ysp' yct' out' m' as' past' chg', f_L_request hc hp hw hs hb hd ht rc rn ri rb rp rt rf rl bc bh bb bf bl sd sc sbc slc sfc sbr sle yhs ysp yct out a1 a2 a3 a4 a5 = some (c, rc', rn', ri', rb', rp', rt', rf', rl', yhs', ysp', yct', out') ∧ f_X10_request m as0 past chg th a1 a2 a3 a4 a5 = some (v, m', as', past', chg', c) ∧ (c = 0 → out' 0 = v.toInt64) ∧ zRel (T + 1) hc hp hw hs hb hd ht rc' rn' ri' rb' rp' rt' rf' rl' bc bh bb bf bl sd sc sbc slc sfc sbr sle m' ∧ zHist (T + 1) yhs' ysp' yct' past' chg' := by
  have Y0 := Y
  obtain ⟨c0, p, y1, hp9, ye, yr⟩ := Y
  subst ye
  obtain ⟨u, e1, e2⟩ := x3_mark yhs hp9 R
  obtain ⟨as', e3, e4⟩ := x10_starts m as0 th
  unfold f_L_request f_X9_request f_X10_request
  rw [e1, z_bind, e3, z_bind]
  dsimp only
  rcases op_ask R (by omega) 0 a1 a2 a3 a4 a5 with ⟨c, th', hcc, e5, e6⟩ | ⟨j, rc', rn', ri', rb', rp', rt', rf', rl', m', hj, e5, e6, R'⟩
  · rw [e5, z_bind, e6, z_bind]
    rcases hcc with ⟨rfl, rfl⟩ | ⟨rfl, rfl⟩
    · dsimp only
      rw [st_1, z_inl, z_inl]
      dsimp only
      rw [if_pos rfl, x10_changedF _ _ _ _ (by decide), z_bind]
      exact ⟨_, _, _, _, _, _, _, _, _, _, _, _, _, _, _, _, _, _, rfl, rfl, fun h => absurd h (by decide), (zRel_mono R (by omega)), (zHist_mono (zHist_mark u Y0 hp9) (by omega))⟩
    · dsimp only
      rw [st_3, z_inl, z_inl]
      dsimp only
      rw [if_neg (by decide), if_pos rfl, x10_changedF _ _ _ _ (by decide), z_bind]
      exact ⟨_, _, _, _, _, _, _, _, _, _, _, _, _, _, _, _, _, _, rfl, rfl, fun h => absurd h (by decide), (zRel_mono R (by omega)), (zHist_mono (zHist_mark u Y0 hp9) (by omega))⟩
  · obtain ⟨ysp', yct', past', chg', k1, k2, k3⟩ := zHist_keep Y0 hp9 e2 e4 (nI j)
    rw [e5, z_bind, e6, z_bind]
    dsimp only
    rw [st_0 (show j < 1000000 by omega) k1, z_inr, z_inr, if_pos (show jin 0 1 = true by decide), k2, z_bind]
    exact ⟨_, _, _, _, _, _, _, _, _, _, _, _, _, _, _, _, _, _, rfl, rfl, fun _ => rfl, R', (zHist_mono k3 (by omega))⟩
theorem do_cancelRequest {T : Nat} {hc rc rn bc sd sc sbc slc sfc sbr sle : Int32} {hp hw hs hb hd ht ri rb rp rt rf rl bh bb bf bl : Nat → Int32} {m past : Nat → Int32} {yhs : Nat → SB} {ysp yct chg : Int32} (R : zRel T hc hp hw hs hb hd ht rc rn ri rb rp rt rf rl bc bh bb bf bl sd sc sbc slc sfc sbr sle m) (Y : zHist T yhs ysp yct past chg) (as0 : Nat → Int32) (th a1 : Int32) (out : Nat → Int64) :
    ∃ v c rc' ri' rb' rp' rt' rf' rl' yhs' ysp' yct' out' m' as' past' chg', f_L_cancelRequest hc hp hw hs hb hd ht rc rn ri rb rp rt rf rl bc bh bb bf bl sd sc sbc slc sfc sbr sle yhs ysp yct out a1 = some (c, rc', ri', rb', rp', rt', rf', rl', yhs', ysp', yct', out') ∧ f_X10_cancelRequest m as0 past chg th a1 = some (v, m', as', past', chg', c) ∧ (c = 0 → out' 0 = v.toInt64) ∧ zRel T hc hp hw hs hb hd ht rc' rn ri' rb' rp' rt' rf' rl' bc bh bb bf bl sd sc sbc slc sfc sbr sle m' ∧ zHist T yhs' ysp' yct' past' chg' := by
  have Y0 := Y
  obtain ⟨c0, p, y1, hp9, ye, yr⟩ := Y
  subst ye
  obtain ⟨u, e1, e2⟩ := x3_mark yhs hp9 R
  obtain ⟨as', e3, e4⟩ := x10_starts m as0 th
  unfold f_L_cancelRequest f_X9_cancelRequest f_X10_cancelRequest
  rw [e1, z_bind, e3, z_bind]
  dsimp only
  rcases op_drop R 0 a1 with ⟨e5, e6⟩ | ⟨j, rc', ri', rb', rp', rt', rf', rl', m', hj, e5, e6, R'⟩
  · rw [e5, z_bind, e6, z_bind]
    dsimp only
    rw [st_4, z_inl, z_inl]
    dsimp only
    rw [if_pos rfl, x10_changedF _ _ _ _ (by decide), z_bind]
    exact ⟨_, _, _, _, _, _, _, _, _, _, _, _, _, _, _, _, _, rfl, rfl, fun h => absurd h (by decide), R, (zHist_mark u Y0 hp9)⟩
  · obtain ⟨ysp', yct', past', chg', k1, k2, k3⟩ := zHist_keep Y0 hp9 e2 e4 (nI j)
    rw [e5, z_bind, e6, z_bind]
    dsimp only
    rw [st_0 (show j < 1000000 by omega) k1, z_inr, z_inr, if_pos (show jin 0 1 = true by decide), k2, z_bind]
    exact ⟨_, _, _, _, _, _, _, _, _, _, _, _, _, _, _, _, _, rfl, rfl, fun _ => rfl, R', k3⟩
theorem do_grant {T : Nat} {hc rc rn bc sd sc sbc slc sfc sbr sle : Int32} {hp hw hs hb hd ht ri rb rp rt rf rl bh bb bf bl : Nat → Int32} {m past : Nat → Int32} {yhs : Nat → SB} {ysp yct chg : Int32} (R : zRel T hc hp hw hs hb hd ht rc rn ri rb rp rt rf rl bc bh bb bf bl sd sc sbc slc sfc sbr sle m) (Y : zHist T yhs ysp yct past chg) (as0 : Nat → Int32) (th a1 : Int32) (out : Nat → Int64) :
    ∃ v c rc' ri' rb' rp' rt' rf' rl' bc' bh' bb' bf' bl' sc' sbc' yhs' ysp' yct' out' m' as' past' chg', f_L_grant hc hp hw hs hb hd ht rc rn ri rb rp rt rf rl bc bh bb bf bl sd sc sbc slc sfc sbr sle yhs ysp yct out a1 = some (c, rc', ri', rb', rp', rt', rf', rl', bc', bh', bb', bf', bl', sc', sbc', yhs', ysp', yct', out') ∧ f_X10_grant m as0 past chg th a1 = some (v, m', as', past', chg', c) ∧ (c = 0 → out' 0 = v.toInt64) ∧ zRel T hc hp hw hs hb hd ht rc' rn ri' rb' rp' rt' rf' rl' bc' bh' bb' bf' bl' sd sc' sbc' slc sfc sbr sle m' ∧ zHist T yhs' ysp' yct' past' chg' := by
  have Y0 := Y
  obtain ⟨c0, p, y1, hp9, ye, yr⟩ := Y
  subst ye
  obtain ⟨u, e1, e2⟩ := x3_mark yhs hp9 R
  obtain ⟨as', e3, e4⟩ := x10_starts m as0 th
  unfold f_L_grant f_X9_grant f_X10_grant
  rw [e1, z_bind, e3, z_bind]
  dsimp only
  rcases op_grantBest R 0 a1 with ⟨c, th', hcc, e5, e6⟩ | ⟨j, rc', ri', rb', rp', rt', rf', rl', bc', bh', bb', bf', bl', sc', sbc', m', hj, e5, e6, R'⟩
  · rw [e5, z_bind, e6, z_bind]
    rcases hcc with ⟨rfl, rfl⟩ | ⟨rfl, rfl⟩ | ⟨rfl, rfl⟩
    · dsimp only
      rw [st_4, z_inl, z_inl]
      dsimp only
      rw [if_pos rfl, x10_changedF _ _ _ _ (by decide), z_bind]
      exact ⟨_, _, _, _, _, _, _, _, _, _, _, _, _, _, _, _, _, _, _, _, _, _, _, _, rfl, rfl, fun h => absurd h (by decide), R, (zHist_mark u Y0 hp9)⟩
    · dsimp only
      rw [st_3, z_inl, z_inl]
      dsimp only
      rw [if_neg (by decide), if_pos rfl, x10_changedF _ _ _ _ (by decide), z_bind]
      exact ⟨_, _, _, _, _, _, _, _, _, _, _, _, _, _, _, _, _, _, _, _, _, _, _, _, rfl, rfl, fun h => absurd h (by decide), R, (zHist_mark u Y0 hp9)⟩
    · dsimp only
      rw [st_5, z_inl, z_inl]
      dsimp only
      rw [if_neg (by decide), if_neg (by decide), if_pos rfl, x10_changedF _ _ _ _ (by decide), z_bind]
      exact ⟨_, _, _, _, _, _, _, _, _, _, _, _, _, _, _, _, _, _, _, _, _, _, _, _, rfl, rfl, fun h => absurd h (by decide), R, (zHist_mark u Y0 hp9)⟩
  · obtain ⟨ysp', yct', past', chg', k1, k2, k3⟩ := zHist_keep Y0 hp9 e2 e4 (nI j)
    rw [e5, z_bind, e6, z_bind]
    dsimp only
    rw [st_0 (show j < 1000000 by omega) k1, z_inr, z_inr, if_pos (show jin 0 1 = true by decide), k2, z_bind]
    exact ⟨_, _, _, _, _, _, _, _, _, _, _, _, _, _, _, _, _, _, _, _, _, _, _, _, rfl, rfl, fun _ => rfl, R', k3⟩
theorem do_giveBack {T : Nat} {hc rc rn bc sd sc sbc slc sfc sbr sle : Int32} {hp hw hs hb hd ht ri rb rp rt rf rl bh bb bf bl : Nat → Int32} {m past : Nat → Int32} {yhs : Nat → SB} {ysp yct chg : Int32} (R : zRel T hc hp hw hs hb hd ht rc rn ri rb rp rt rf rl bc bh bb bf bl sd sc sbc slc sfc sbr sle m) (Y : zHist T yhs ysp yct past chg) (as0 : Nat → Int32) (th a1 a2 a3 : Int32) (out : Nat → Int64) :
    ∃ v c hw' hs' ht' sc' slc' yhs' ysp' yct' out' m' as' past' chg', f_L_giveBack hc hp hw hs hb hd ht rc rn ri rb rp rt rf rl bc bh bb bf bl sd sc sbc slc sfc sbr sle yhs ysp yct out a1 a2 a3 = some (c, hw', hs', ht', sc', slc', yhs', ysp', yct', out') ∧ f_X10_giveBack m as0 past chg th a1 a2 a3 = some (v, m', as', past', chg', c) ∧ (c = 0 → out' 0 = v.toInt64) ∧ zRel T hc hp hw' hs' hb hd ht' rc rn ri rb rp rt rf rl bc bh bb bf bl sd sc' sbc slc' sfc sbr sle m' ∧ zHist T yhs' ysp' yct' past' chg' := by
  have Y0 := Y
  obtain ⟨c0, p, y1, hp9, ye, yr⟩ := Y
  subst ye
  obtain ⟨u, e1, e2⟩ := x3_mark yhs hp9 R
  obtain ⟨as', e3, e4⟩ := x10_starts m as0 th
  unfold f_L_giveBack f_X9_giveBack f_X10_giveBack
  rw [e1, z_bind, e3, z_bind]
  dsimp only
  rcases op_takeBack R 0 a1 a2 a3 with ⟨c, th', hcc, e5, e6⟩ | ⟨j, hw', hs', ht', sc', slc', m', hj, e5, e6, R'⟩
  · rw [e5, z_bind, e6, z_bind]
    rcases hcc with ⟨rfl, rfl⟩ | ⟨rfl, rfl⟩ | ⟨rfl, rfl⟩
    · dsimp only
      rw [st_2, z_inl, z_inl]
      dsimp only
      rw [if_pos rfl, x10_changedF _ _ _ _ (by decide), z_bind]
      exact ⟨_, _, _, _, _, _, _, _, _, _, _, _, _, _, _, rfl, rfl, fun h => absurd h (by decide), R, (zHist_mark u Y0 hp9)⟩
    · dsimp only
      rw [st_1, z_inl, z_inl]
      dsimp only
      rw [if_neg (by decide), if_pos rfl, x10_changedF _ _ _ _ (by decide), z_bind]
      exact ⟨_, _, _, _, _, _, _, _, _, _, _, _, _, _, _, rfl, rfl, fun h => absurd h (by decide), R, (zHist_mark u Y0 hp9)⟩
    · dsimp only
      rw [st_3, z_inl, z_inl]
      dsimp only
      rw [if_neg (by decide), if_neg (by decide), if_pos rfl, x10_changedF _ _ _ _ (by decide), z_bind]
      exact ⟨_, _, _, _, _, _, _, _, _, _, _, _, _, _, _, rfl, rfl, fun h => absurd h (by decide), R, (zHist_mark u Y0 hp9)⟩
  · obtain ⟨ysp', yct', past', chg', k1, k2, k3⟩ := zHist_keep Y0 hp9 e2 e4 (nI j)
    rw [e5, z_bind, e6, z_bind]
    dsimp only
    rw [st_0 (show j < 1000000 by omega) k1, z_inr, z_inr, if_pos (show jin 0 1 = true by decide), k2, z_bind]
    exact ⟨_, _, _, _, _, _, _, _, _, _, _, _, _, _, _, rfl, rfl, fun _ => rfl, R', k3⟩
theorem do_renewFace {T : Nat} {hc rc rn bc sd sc sbc slc sfc sbr sle : Int32} {hp hw hs hb hd ht ri rb rp rt rf rl bh bb bf bl : Nat → Int32} {m past : Nat → Int32} {yhs : Nat → SB} {ysp yct chg : Int32} (R : zRel T hc hp hw hs hb hd ht rc rn ri rb rp rt rf rl bc bh bb bf bl sd sc sbc slc sfc sbr sle m) (Y : zHist T yhs ysp yct past chg) (as0 : Nat → Int32) (th a1 : Int32) (out : Nat → Int64) :
    ∃ v c hw' sc' sfc' yhs' ysp' yct' out' m' as' past' chg', f_L_renewFace hc hp hw hs hb hd ht rc rn ri rb rp rt rf rl bc bh bb bf bl sd sc sbc slc sfc sbr sle yhs ysp yct out a1 = some (c, hw', sc', sfc', yhs', ysp', yct', out') ∧ f_X10_renewFace m as0 past chg th a1 = some (v, m', as', past', chg', c) ∧ (c = 0 → out' 0 = v.toInt64) ∧ zRel T hc hp hw' hs hb hd ht rc rn ri rb rp rt rf rl bc bh bb bf bl sd sc' sbc slc sfc' sbr sle m' ∧ zHist T yhs' ysp' yct' past' chg' := by
  have Y0 := Y
  obtain ⟨c0, p, y1, hp9, ye, yr⟩ := Y
  subst ye
  obtain ⟨u, e1, e2⟩ := x3_mark yhs hp9 R
  obtain ⟨as', e3, e4⟩ := x10_starts m as0 th
  unfold f_L_renewFace f_X9_renewFace f_X10_renewFace
  rw [e1, z_bind, e3, z_bind]
  dsimp only
  rcases op_renew R 0 a1 with ⟨c, th', hcc, e5, e6⟩ | ⟨j, hw', sc', sfc', m', hj, e5, e6, R'⟩
  · rw [e5, z_bind, e6, z_bind]
    rcases hcc with ⟨rfl, rfl⟩ | ⟨rfl, rfl⟩ | ⟨rfl, rfl⟩
    · dsimp only
      rw [st_2, z_inl, z_inl]
      dsimp only
      rw [if_pos rfl, x10_changedF _ _ _ _ (by decide), z_bind]
      exact ⟨_, _, _, _, _, _, _, _, _, _, _, _, _, rfl, rfl, fun h => absurd h (by decide), R, (zHist_mark u Y0 hp9)⟩
    · dsimp only
      rw [st_3, z_inl, z_inl]
      dsimp only
      rw [if_neg (by decide), if_pos rfl, x10_changedF _ _ _ _ (by decide), z_bind]
      exact ⟨_, _, _, _, _, _, _, _, _, _, _, _, _, rfl, rfl, fun h => absurd h (by decide), R, (zHist_mark u Y0 hp9)⟩
    · dsimp only
      rw [st_5, z_inl, z_inl]
      dsimp only
      rw [if_neg (by decide), if_neg (by decide), if_pos rfl, x10_changedF _ _ _ _ (by decide), z_bind]
      exact ⟨_, _, _, _, _, _, _, _, _, _, _, _, _, rfl, rfl, fun h => absurd h (by decide), R, (zHist_mark u Y0 hp9)⟩
  · obtain ⟨ysp', yct', past', chg', k1, k2, k3⟩ := zHist_keep Y0 hp9 e2 e4 (nI j)
    rw [e5, z_bind, e6, z_bind]
    dsimp only
    rw [st_0 (show j < 1000000 by omega) k1, z_inr, z_inr, if_pos (show jin 0 1 = true by decide), k2, z_bind]
    exact ⟨_, _, _, _, _, _, _, _, _, _, _, _, _, rfl, rfl, fun _ => rfl, R', k3⟩
theorem do_passDays {T : Nat} {hc rc rn bc sd sc sbc slc sfc sbr sle : Int32} {hp hw hs hb hd ht ri rb rp rt rf rl bh bb bf bl : Nat → Int32} {m past : Nat → Int32} {yhs : Nat → SB} {ysp yct chg : Int32} (R : zRel T hc hp hw hs hb hd ht rc rn ri rb rp rt rf rl bc bh bb bf bl sd sc sbc slc sfc sbr sle m) (Y : zHist T yhs ysp yct past chg) (hT : T < 1000000) (as0 : Nat → Int32) (th a1 : Int32) (out : Nat → Int64) :
    ∃ v c hs' hb' hd' ht' bc' bh' bb' bf' bl' sd' sbr' sle' yhs' ysp' yct' out' m' as' past' chg', f_L_passDays hc hp hw hs hb hd ht rc rn ri rb rp rt rf rl bc bh bb bf bl sd sc sbc slc sfc sbr sle yhs ysp yct out a1 = some (c, hs', hb', hd', ht', bc', bh', bb', bf', bl', sd', sbr', sle', yhs', ysp', yct', out') ∧ f_X10_passDays m as0 past chg th a1 = some (v, m', as', past', chg', c) ∧ (c = 0 → out' 0 = v.toInt64) ∧ zRel (T + 30) hc hp hw hs' hb' hd' ht' rc rn ri rb rp rt rf rl bc' bh' bb' bf' bl' sd' sc sbc slc sfc sbr' sle' m' ∧ zHist (T + 30) yhs' ysp' yct' past' chg' := by
  have Y0 := Y
  obtain ⟨c0, p, y1, hp9, ye, yr⟩ := Y
  subst ye
  obtain ⟨u, e1, e2⟩ := x3_mark yhs hp9 R
  obtain ⟨as', e3, e4⟩ := x10_starts m as0 th
  unfold f_L_passDays f_X9_passDays f_X10_passDays
  rw [e1, z_bind, e3, z_bind]
  dsimp only
  rcases op_advance R (by omega) 0 a1 with ⟨e5, e6⟩ | ⟨j, hs', hb', hd', ht', bc', bh', bb', bf', bl', sd', sbr', sle', m', hj, e5, e6, R'⟩
  · rw [e5, z_bind, e6, z_bind]
    dsimp only
    rw [st_1, z_inl, z_inl]
    dsimp only
    rw [if_pos rfl, x10_changedF _ _ _ _ (by decide), z_bind]
    exact ⟨_, _, _, _, _, _, _, _, _, _, _, _, _, _, _, _, _, _, _, _, _, _, rfl, rfl, fun h => absurd h (by decide), (zRel_mono R (by omega)), (zHist_mono (zHist_mark u Y0 hp9) (by omega))⟩
  · obtain ⟨ysp', yct', past', chg', k1, k2, k3⟩ := zHist_keep Y0 hp9 e2 e4 (nI j)
    rw [e5, z_bind, e6, z_bind]
    dsimp only
    rw [st_0 (show j < 1000000 by omega) k1, z_inr, z_inr, if_pos (show jin 0 1 = true by decide), k2, z_bind]
    exact ⟨_, _, _, _, _, _, _, _, _, _, _, _, _, _, _, _, _, _, _, _, _, _, rfl, rfl, fun _ => rfl, R', (zHist_mono k3 (by omega))⟩

/-! PURE: the most grants, undo, save and restore, as the law asks them -/
theorem do_grantMost {T : Nat} {hc rc rn bc sd sc sbc slc sfc sbr sle : Int32} {hp hw hs hb hd ht ri rb rp rt rf rl bh bb bf bl : Nat → Int32} {m past : Nat → Int32} {yhs : Nat → SB} {ysp yct chg : Int32} (R : zRel T hc hp hw hs hb hd ht rc rn ri rb rp rt rf rl bc bh bb bf bl sd sc sbc slc sfc sbr sle m) (Y : zHist T yhs ysp yct past chg) (as0 : Nat → Int32) (th gc gu : Int32) (gf gh gch fit giv : Nat → Int32) :
    ∃ v rc' ri' rb' rp' rt' rf' rl' bc' bh' bb' bf' bl' sc' sbc' yhs' ysp' yct' gc' gf' gh' gch' gu' m' as' past' chg' fit' giv', f_X9_grantMost hc hp hw hs hb hd ht rc rn ri rb rp rt rf rl bc bh bb bf bl sd sc sbc slc sfc sbr sle yhs ysp yct gc gf gh gch gu = some (.inr (v, rc', ri', rb', rp', rt', rf', rl', bc', bh', bb', bf', bl', sc', sbc', yhs', ysp', yct', gc', gf', gh', gch', gu')) ∧ f_X10_grantMost m as0 past chg th fit giv = some (v, m', as', past', chg', 0, fit', giv') ∧ zRel T hc hp hw hs hb hd ht rc' rn ri' rb' rp' rt' rf' rl' bc' bh' bb' bf' bl' sd sc' sbc' slc sfc sbr sle m' ∧ zHist T yhs' ysp' yct' past' chg' := by
  have Y0 := Y
  obtain ⟨c0, p, y1, hp9, ye, yr⟩ := Y
  subst ye
  obtain ⟨u, e1, e2⟩ := x3_mark yhs hp9 R
  obtain ⟨as', e3, e4⟩ := x10_starts m as0 th
  obtain ⟨j, rc', ri', rb', rp', rt', rf', rl', bc', bh', bb', bf', bl', sc', sbc', gc', gf', gh', gch', gu', m', fit', giv', hj, e5, e6, R'⟩ := op_together R gc gf gh gch gu fit giv
  obtain ⟨ysp', yct', past', chg', k1, k2, k3⟩ := zHist_keep Y0 hp9 e2 e4 (nI j)
  unfold f_X9_grantMost f_X10_grantMost
  rw [e1, z_bind, e3, z_bind]
  dsimp only
  rw [e5, z_bind, e6, z_bind]
  dsimp only
  rw [st_0 hj k1, z_inr, k2, z_bind]
  exact ⟨_, _, _, _, _, _, _, _, _, _, _, _, _, _, _, _, _, _, _, _, _, _, _, _, _, _, _, _, _, rfl, rfl, R', k3⟩
theorem z_back9 : ∀ p, p < 9 → ((nI p + 9) - 1) - ((nI p + 9) - 1) / 9 * 9 = nI ((p + 8) % 9) := by decide +kernel
theorem x10_back (m past : Nat → Int32) {c : Nat} (hc : c < 8) : ∃ m', f_X10_undo_L30 past (nI c) jFU 0 m = some (nI 2048, m') ∧ ∀ x, x < 2048 → m' x = past (2048 * c + x) := by
  obtain ⟨s, hs, e⟩ := pzG (F := f_X10_undo_L30 past (nI c)) (n := 2048) (fun k s => ∀ x, x < k → s x = past (2048 * c + x))
    (fun fu s _ => by rw [f_X10_undo_L30, if_pos (by decide)])
    (fun fu k s hk hs => by
      rw [f_X10_undo_L30, if_neg (show ¬ (2048 : Int32) ≤ nI k from nI_ge (b := 2048) hk (by omega)), show (2048 : Int32) * nI c + nI k = nI (2048 * c + k) by rw [z_lmul, nI_add], if_pos (show jin (nI (2048 * c + k)) 16384 = true by rw [z_jin (by omega)]; simp; omega), if_pos (show jin (nI k) 2048 = true by rw [z_jin (by omega)]; simp; omega), z_cl (by omega), z_cl (by omega), nI_1]
      refine ⟨_, fun x hx => ?_, rfl⟩
      by_cases q : x = k
      · rw [q, z_upds]
      · rw [z_updn _ q]; exact hs x (by omega))
    m jFU (pz_jFU (by omega)) (fun x hx => by omega)
  exact ⟨s, e, hs⟩
theorem do_undo {T : Nat} {hc rc rn bc sd sc sbc slc sfc sbr sle : Int32} {hp hw hs hb hd ht ri rb rp rt rf rl bh bb bf bl : Nat → Int32} {m past : Nat → Int32} {yhs : Nat → SB} {ysp yct chg : Int32} (R : zRel T hc hp hw hs hb hd ht rc rn ri rb rp rt rf rl bc bh bb bf bl sd sc sbc slc sfc sbr sle m) (Y : zHist T yhs ysp yct past chg) (th : Int32) (out : Nat → Int64) :
    ∃ v c hc' hp' hw' hs' hb' hd' ht' rc' rn' ri' rb' rp' rt' rf' rl' bc' bh' bb' bf' bl' sd' sc' sbc' slc' sfc' sbr' sle' ysp' yct' out' m' chg', f_L_undo hc hp hw hs hb hd ht rc rn ri rb rp rt rf rl bc bh bb bf bl sd sc sbc slc sfc sbr sle yhs ysp yct out = some (c, hc', hp', hw', hs', hb', hd', ht', rc', rn', ri', rb', rp', rt', rf', rl', bc', bh', bb', bf', bl', sd', sc', sbc', slc', sfc', sbr', sle', ysp', yct', out') ∧ f_X10_undo m past chg th = some (v, m', chg', c) ∧ (c = 0 → out' 0 = v.toInt64) ∧ zRel T hc' hp' hw' hs' hb' hd' ht' rc' rn' ri' rb' rp' rt' rf' rl' bc' bh' bb' bf' bl' sd' sc' sbc' slc' sfc' sbr' sle' m' ∧ zHist T yhs ysp' yct' past chg' := by
  have Y0 := Y
  obtain ⟨c, p, y1, hp9, ye, yc, yg, y6⟩ := Y
  subst ye yc yg
  unfold f_L_undo f_X9_undo f_X10_undo
  rw [show f_X3_size (nI c) = some (nI c) from rfl, z_bind]
  by_cases c0 : c = 0
  · subst c0
    rw [if_pos (show nI 0 = (0 : Int32) from rfl), if_pos (show nI 0 = (0 : Int32) from rfl), z_inl]
    dsimp only
    rw [if_pos rfl]
    exact ⟨_, _, _, _, _, _, _, _, _, _, _, _, _, _, _, _, _, _, _, _, _, _, _, _, _, _, _, _, _, _, _, _, _, _, rfl, rfl, fun h => absurd h (by decide), R, Y0⟩
  · have n0 : ¬ nI c = (0 : Int32) := by rw [show (0 : Int32) = nI 0 from rfl, z_eq (by omega) (by omega)]; exact c0
    obtain ⟨m', b1, b2⟩ := x10_back m past (c := c - 1) (by omega)
    have R0 := y6 0 (by omega)
    obtain ⟨u, e, eU⟩ := x3_revert (m' := m') yhs hc rc rn bc sd sc sbc slc sfc sbr sle hp hw hs hb hd ht ri rb rp rt rf rl bh bb bf bl (show (p + 8) % 9 < 9 by omega) R0 (fun x hx => b2 x hx)
    rw [if_neg n0, if_neg n0]
    unfold f_X3_back
    rw [if_neg (show ¬ nI c ≤ (0 : Int32) from nI_ge (a := 0) (b := c) (by omega) (by omega)), z_back9 p hp9, e, z_bind, z_bind]
    dsimp only
    rw [show nI c - 1 = nI (c - 1) from z_subl (n := 1) (by show 1 ≤ c; omega), show f_X3_size (nI (c - 1)) = some (nI (c - 1)) from rfl, z_bind, z_inr, if_pos (show jin 0 1 = true by decide), b1, z_bind]
    refine ⟨_, _, _, _, _, _, _, _, _, _, _, _, _, _, _, _, _, _, _, _, _, _, _, _, _, _, _, _, _, _, _, _, _, _, rfl, rfl, fun _ => rfl, eU, c - 1, (p + 8) % 9, by omega, by omega, rfl, rfl, rfl, fun i hi => ?_⟩
    have := y6 (i + 1) (by omega)
    rw [show ((p + 8) % 9 + 8 - i) % 9 = (p + 8 - (i + 1)) % 9 by omega, show c - 1 - 1 - i = c - 1 - (i + 1) by omega]
    exact this
/-- what is saved -/
def zSnap (T : Nat) (has : Int32) (s : SB) (saved : Nat → Int32) (isSaved : Int32) : Prop := has = isSaved ∧ (¬ has = 0 → zRelS T s saved)
theorem zSnap_mono {T T' : Nat} {has isSaved : Int32} {s : SB} {saved : Nat → Int32} (H : zSnap T has s saved isSaved) (h : T ≤ T') : zSnap T' has s saved isSaved := ⟨H.1, fun q => zRelS_mono (H.2 q) h⟩
theorem x10_saves (m sv : Nat → Int32) : ∃ s', f_X10_save_L7 m jFU 0 sv = some (nI 2048, s') ∧ ∀ x, x < 2048 → s' x = m x := by
  obtain ⟨s, hs, e⟩ := pzG (F := f_X10_save_L7 m) (n := 2048) (fun k s => ∀ x, x < k → s x = m x)
    (fun fu s _ => by rw [f_X10_save_L7, if_pos (by decide)])
    (fun fu k s hk hs => by
      rw [f_X10_save_L7, if_neg (show ¬ (2048 : Int32) ≤ nI k from nI_ge (b := 2048) hk (by omega)), if_pos (show jin (nI k) 2048 = true by rw [z_jin (by omega)]; simp; omega), if_pos (show jin (nI k) 2048 = true by rw [z_jin (by omega)]; simp; omega), z_cl (by omega), nI_1]
      refine ⟨_, fun x hx => ?_, rfl⟩
      by_cases c : x = k
      · rw [c, z_upds]
      · rw [z_updn _ c]; exact hs x (by omega))
    sv jFU (pz_jFU (by omega)) (fun x hx => by omega)
  exact ⟨s, e, hs⟩
theorem x10_restores (m sv : Nat → Int32) : ∃ m', f_X10_restore_L20 sv jFU 0 m = some (nI 2048, m') ∧ ∀ x, x < 2048 → m' x = sv x := by
  obtain ⟨s, hs, e⟩ := pzG (F := f_X10_restore_L20 sv) (n := 2048) (fun k s => ∀ x, x < k → s x = sv x)
    (fun fu s _ => by rw [f_X10_restore_L20, if_pos (by decide)])
    (fun fu k s hk hs => by
      rw [f_X10_restore_L20, if_neg (show ¬ (2048 : Int32) ≤ nI k from nI_ge (b := 2048) hk (by omega)), if_pos (show jin (nI k) 2048 = true by rw [z_jin (by omega)]; simp; omega), if_pos (show jin (nI k) 2048 = true by rw [z_jin (by omega)]; simp; omega), z_cl (by omega), nI_1]
      refine ⟨_, fun x hx => ?_, rfl⟩
      by_cases c : x = k
      · rw [c, z_upds]
      · rw [z_updn _ c]; exact hs x (by omega))
    m jFU (pz_jFU (by omega)) (fun x hx => by omega)
  exact ⟨s, e, hs⟩
theorem zRel_m0 {T : Nat} {hc rc rn bc sd sc sbc slc sfc sbr sle : Int32} {hp hw hs hb hd ht ri rb rp rt rf rl bh bb bf bl : Nat → Int32} {m : Nat → Int32} (R : zRel T hc hp hw hs hb hd ht rc rn ri rb rp rt rf rl bc bh bb bf bl sd sc sbc slc sfc sbr sle m) : m 0 = hc := by
  obtain ⟨n, P, W, L, B, D, q, b, d, H, _⟩ := R
  rw [H.2.1]; exact H.2.2.1
theorem do_save {T : Nat} {hc rc rn bc sd sc sbc slc sfc sbr sle : Int32} {hp hw hs hb hd ht ri rb rp rt rf rl bh bb bf bl : Nat → Int32} {m : Nat → Int32} (has isSaved th : Int32) (sv : Nat → Int32) (oc qc qn gc ud uc ubc ulc ufc ubr ule : Int32) (op ow os ob od ot qi qb qp qt qf ql gh gb gf gl : Nat → Int32) (R : zRel T hc hp hw hs hb hd ht rc rn ri rb rp rt rf rl bc bh bb bf bl sd sc sbc slc sfc sbr sle m) :
    ∃ hc' hp' hw' hs' hb' hd' ht' rc' rn' ri' rb' rp' rt' rf' rl' bc' bh' bb' bf' bl' sd' sc' sbc' slc' sfc' sbr' sle' sv', f_X9_save has hc hp hw hs hb hd ht rc rn ri rb rp rt rf rl bc bh bb bf bl sd sc sbc slc sfc sbr sle oc op ow os ob od ot qc qn qi qb qp qt qf ql gc gh gb gf gl ud uc ubc ulc ufc ubr ule = some (hc, 1, hc', hp', hw', hs', hb', hd', ht', rc', rn', ri', rb', rp', rt', rf', rl', bc', bh', bb', bf', bl', sd', sc', sbc', slc', sfc', sbr', sle') ∧ f_X10_save m sv isSaved th = some (hc, sv', 1, 0) ∧ zRel T hc' hp' hw' hs' hb' hd' ht' rc' rn' ri' rb' rp' rt' rf' rl' bc' bh' bb' bf' bl' sd' sc' sbc' slc' sfc' sbr' sle' sv' := by
  obtain ⟨sv', a1, a2⟩ := x10_saves m sv
  obtain ⟨u, e, _, e2⟩ := x8_copy oc qc qn gc ud uc ubc ulc ufc ubr ule op ow os ob od ot qi qb qp qt qf ql gh gb gf gl R (m' := sv') a2
  unfold f_X9_save f_X10_save
  rw [e, z_bind, show f_X2_size hc = some hc from rfl, z_bind, a1, z_bind, if_pos (show jin 0 2048 = true by decide), show (0 : Int32).toNatClampNeg = 0 from rfl, zRel_m0 R]
  exact ⟨_, _, _, _, _, _, _, _, _, _, _, _, _, _, _, _, _, _, _, _, _, _, _, _, _, _, _, _, rfl, rfl, e2⟩
theorem do_restore {T : Nat} {hc rc rn bc sd sc sbc slc sfc sbr sle : Int32} {hp hw hs hb hd ht ri rb rp rt rf rl bh bb bf bl : Nat → Int32} {m past : Nat → Int32} {yhs : Nat → SB} {ysp yct chg : Int32} {has isSaved : Int32} {sv : Nat → Int32} {s : SB} (R : zRel T hc hp hw hs hb hd ht rc rn ri rb rp rt rf rl bc bh bb bf bl sd sc sbc slc sfc sbr sle m) (Y : zHist T yhs ysp yct past chg) (Z : zSnap T has s sv isSaved) (th : Int32) (out : Nat → Int64) :
    ∃ v c hc' hp' hw' hs' hb' hd' ht' rc' rn' ri' rb' rp' rt' rf' rl' bc' bh' bb' bf' bl' sd' sc' sbc' slc' sfc' sbr' sle' yct' out' m' chg', f_L_restore has hc hp hw hs hb hd ht rc rn ri rb rp rt rf rl bc bh bb bf bl sd sc sbc slc sfc sbr sle (s.1) (s.2.1) (s.2.2.1) (s.2.2.2.1) (s.2.2.2.2.1) (s.2.2.2.2.2.1) (s.2.2.2.2.2.2.1) (s.2.2.2.2.2.2.2.1) (s.2.2.2.2.2.2.2.2.1) (s.2.2.2.2.2.2.2.2.2.1) (s.2.2.2.2.2.2.2.2.2.2.1) (s.2.2.2.2.2.2.2.2.2.2.2.1) (s.2.2.2.2.2.2.2.2.2.2.2.2.1) (s.2.2.2.2.2.2.2.2.2.2.2.2.2.1) (s.2.2.2.2.2.2.2.2.2.2.2.2.2.2.1) (s.2.2.2.2.2.2.2.2.2.2.2.2.2.2.2.1) (s.2.2.2.2.2.2.2.2.2.2.2.2.2.2.2.2.1) (s.2.2.2.2.2.2.2.2.2.2.2.2.2.2.2.2.2.1) (s.2.2.2.2.2.2.2.2.2.2.2.2.2.2.2.2.2.2.1) (s.2.2.2.2.2.2.2.2.2.2.2.2.2.2.2.2.2.2.2.1) (s.2.2.2.2.2.2.2.2.2.2.2.2.2.2.2.2.2.2.2.2.1) (s.2.2.2.2.2.2.2.2.2.2.2.2.2.2.2.2.2.2.2.2.2.1) (s.2.2.2.2.2.2.2.2.2.2.2.2.2.2.2.2.2.2.2.2.2.2.1) (s.2.2.2.2.2.2.2.2.2.2.2.2.2.2.2.2.2.2.2.2.2.2.2.1) (s.2.2.2.2.2.2.2.2.2.2.2.2.2.2.2.2.2.2.2.2.2.2.2.2.1) (s.2.2.2.2.2.2.2.2.2.2.2.2.2.2.2.2.2.2.2.2.2.2.2.2.2.1) (s.2.2.2.2.2.2.2.2.2.2.2.2.2.2.2.2.2.2.2.2.2.2.2.2.2.2) yct out = some (c, hc', hp', hw', hs', hb', hd', ht', rc', rn', ri', rb', rp', rt', rf', rl', bc', bh', bb', bf', bl', sd', sc', sbc', slc', sfc', sbr', sle', yct', out') ∧ f_X10_restore m sv isSaved chg th = some (v, m', chg', c) ∧ (c = 0 → out' 0 = v.toInt64) ∧ zRel T hc' hp' hw' hs' hb' hd' ht' rc' rn' ri' rb' rp' rt' rf' rl' bc' bh' bb' bf' bl' sd' sc' sbc' slc' sfc' sbr' sle' m' ∧ zHist T yhs ysp yct' past chg' := by
  obtain ⟨z1, z2⟩ := Z
  subst z1
  unfold f_L_restore f_X9_restore f_X10_restore
  by_cases h0 : has = 0
  · rw [if_pos h0, if_pos h0, z_inl]
    dsimp only
    rw [if_pos rfl]
    exact ⟨_, _, _, _, _, _, _, _, _, _, _, _, _, _, _, _, _, _, _, _, _, _, _, _, _, _, _, _, _, _, _, _, _, rfl, rfl, fun h => absurd h (by decide), R, Y⟩
  · obtain ⟨m', a1, a2⟩ := x10_restores m sv
    obtain ⟨u, e, _, e2⟩ := x8_copy hc rc rn bc sd sc sbc slc sfc sbr sle hp hw hs hb hd ht ri rb rp rt rf rl bh bb bf bl (z2 h0) (m' := m') a2
    have m0 := zRel_m0 e2
    obtain ⟨c, p, y1, hp9, ye, yc, yg, y6⟩ := Y
    rw [if_neg h0, if_neg h0, e, z_bind, show f_X3_forget yct = some 0 from rfl, z_bind, show f_X2_size u.1 = some u.1 from rfl, z_bind, z_inr, if_pos (show jin 0 1 = true by decide), a1, z_bind, if_pos (show jin 0 2048 = true by decide)]
    dsimp only
    rw [show (0 : Int32).toNatClampNeg = 0 from rfl, m0]
    exact ⟨_, _, _, _, _, _, _, _, _, _, _, _, _, _, _, _, _, _, _, _, _, _, _, _, _, _, _, _, _, _, _, _, _, rfl, rfl, fun _ => rfl, e2, 0, p, by omega, hp9, ye, rfl, rfl, fun i hi => by omega⟩

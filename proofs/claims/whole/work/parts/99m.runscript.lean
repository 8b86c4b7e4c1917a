/-! A SCRIPT RUN ON BOTH SIDES -/
set_option maxHeartbeats 4000000 in
theorem do_runScript {T : Nat} {hc rc rn bc sd sc sbc slc sfc sbr sle : Int32} {hp hw hs hb hd ht ri rb rp rt rf rl bh bb bf bl : Nat → Int32} {m past : Nat → Int32} {yhs : Nat → SB} {ysp yct chg : Int32} {pt inp : Nat → Int32} {pl many : Int32} (R : zRel T hc hp hw hs hb hd ht rc rn ri rb rp rt rf rl bc bh bb bf bl sd sc sbc slc sfc sbr sle m) (Y : zHist T yhs ysp yct past chg) (X : zTx pt pl inp many) (hT : T < 900000) (eA fA th at0 ct pn cn pl0 sz wr gc gu : Int32) (gf gh gch fit giv as0 pk pa cm : Nat → Int32) (out : Nat → Int64) :
    ∃ v cd eA' fA' hc' hp' hw' hs' hb' hd' ht' rc' rn' ri' rb' rp' rt' rf' rl' bc' bh' bb' bf' bl' sd' sc' sbc' slc' sfc' sbr' sle' yhs' ysp' yct' gc' gf' gh' gch' gu' at' ct' pk' pa' pn' out' m' as' past' chg' fit' giv' cm' cn' pl' sz' wr', f_L_runScript eA fA hc hp hw hs hb hd ht rc rn ri rb rp rt rf rl bc bh bb bf bl sd sc sbc slc sfc sbr sle yhs ysp yct gc gf gh gch gu pt pl at0 ct pk pa pn out = some (cd, eA', fA', hc', hp', hw', hs', hb', hd', ht', rc', rn', ri', rb', rp', rt', rf', rl', bc', bh', bb', bf', bl', sd', sc', sbc', slc', sfc', sbr', sle', yhs', ysp', yct', gc', gf', gh', gch', gu', 0, at', ct', pk', pa', pn', out') ∧ f_X10_runScript m as0 past chg eA fA th inp many fit giv mL49 mB11 cm cn pl0 sz wr = some (v, m', as', past', chg', eA', fA', cd, 0, fit', giv', cm', cn', pl', sz', wr') ∧ (cd = 0 → out' 0 = v.toInt64) ∧ zRel (T + 465) hc' hp' hw' hs' hb' hd' ht' rc' rn' ri' rb' rp' rt' rf' rl' bc' bh' bb' bf' bl' sd' sc' sbc' slc' sfc' sbr' sle' m' ∧ zHist (T + 465) yhs' ysp' yct' past' chg' := by
  have Y0 := Y
  obtain ⟨c0, p, y1, hp9, ye, yr⟩ := Y
  subst ye
  obtain ⟨u0, e1, e2⟩ := x3_mark yhs hp9 R
  obtain ⟨a, e3, e4⟩ := x10_starts m as0 th
  obtain ⟨l, hl, rfl, rfl, hpt⟩ := X
  obtain ⟨at', n', pk', pa', pn', r1, r3, r4⟩ := x6_read (pt := pt) hl at0 ct pk pa pn
  obtain ⟨cm', nm, q, w, s1, -, s2, s3⟩ := m_readL (f := inp) hl 15 0 0 jFU cm rfl (pz_jFU (by omega)) (Nat.zero_le _) (by omega)
  have cg := zSc_cong hpt 15 0 (Nat.zero_le _)
  rw [cg] at r1 r4
  unfold f_L_runScript f_X9_runScript f_X10_runScript
  rw [r1, z_bind, show f_X6_clear (nI l) = some 0 from rfl, z_bind, e3, z_bind, show f_X10_runScript_L34 inp mL49 mB11 (nI l) jFU 1 cm 0 0 0 = _ from s1, z_bind]
  dsimp only
  cases z : (zSc inp l 15 0).1 with
  | some e =>
    obtain ⟨rfl, rfl⟩ := s3 e z
    have el := zSc_le 15 0 _ (Nat.zero_le _) z
    dsimp only
    rw [if_neg (show ¬ nI q = -1 from nI_nneg (by omega) _ (by decide)), z_inl, if_pos rfl, if_neg z_n10]
    exact ⟨-1, 1, nI q, fA, hc, hp, hw, hs, hb, hd, ht, rc, rn, ri, rb, rp, rt, rf, rl, bc, bh, bb, bf, bl, sd, sc, sbc, slc, sfc, sbr, sle, yhs, nI p, yct, gc, gf, gh, gch, gu, at', nI n', pk', pa', pn', out, m, a, past, chg, fit, giv, cm', nm, nI q, nI l, 1, rfl, rfl, fun h => absurd h z_n10, zRel_mono R (by omega), zHist_mono Y0 (by omega)⟩
  | none =>
    obtain ⟨rfl, hnm, hck⟩ := s2 z
    obtain ⟨hn', hcmz⟩ := r4 z
    rw [Nat.zero_add] at hnm
    subst hnm hn'
    dsimp only
    rw [if_pos rfl, e1, z_bind, if_pos rfl]
    rcases run_loop (p9 := p) (T0 := T) (m0 := m) (a := a) (yhs := va_up yhs p u0) hp9 (by rw [va_ups]; exact e2) e4 (n := (zSc inp l 15 0).2.length) r3 (pk := pk') (pa := pa') (cm := cm') eA yct 0 at' pn' fA fA chg eA 0 (nI q) (nI l) 0 past (zSc inp l 15 0).2 0 T jFU hc rc rn bc sd sc sbc slc sfc sbr sle hp hw hs hb hd ht ri rb rp rt rf rl bh bb bf bl m gc gu gf gh gch fit giv (Nat.zero_add _) (pz_jFU (by omega)) R (by omega) hcmz hck (zSc_ok 15 0) with ⟨hc', hp', hw', hs', hb', hd', ht', rc', rn', ri', rb', rp', rt', rf', rl', bc', bh', bb', bf', bl', sd', sc', sbc', slc', sfc', sbr', sle', gc', gf', gh', gch', gu', m', fit', giv', k1, k2, k3⟩ | ⟨c2, u, gc', gf', gh', gch', gu', v2, m', fit', giv', k1, k2, k3⟩
    · obtain ⟨ysp', yct', past', chg', w1, w2, w3⟩ := zHist_keep Y0 hp9 e2 e4 (nI (zSc inp l 15 0).2.length)
      rw [show f_X9_runScript_L49 eA (va_up yhs p u0) (nI p) yct 0 at' (nI (zSc inp l 15 0).2.length) pk' pa' pn' jFU 0 fA hc hp hw hs hb hd ht rc rn ri rb rp rt rf rl bc bh bb bf bl sd sc sbc slc sfc sbr sle gc gf gh gch gu = _ from k1, z_inr, w1, z_bind, show f_X6_size (nI (zSc inp l 15 0).2.length) = some (nI (zSc inp l 15 0).2.length) from rfl, z_bind, z_inr, if_pos (show jin 0 1 = true by decide), show f_X10_runScript_L115 a past chg eA 0 cm' (nI (zSc inp l 15 0).2.length) (nI q) (nI l) 0 jFU 0 m fA 0 fit giv = _ from k2, z_inr]
      dsimp only
      rw [w2, z_bind]
      exact ⟨nI (zSc inp l 15 0).2.length, 0, eA, fA, hc', hp', hw', hs', hb', hd', ht', rc', rn', ri', rb', rp', rt', rf', rl', bc', bh', bb', bf', bl', sd', sc', sbc', slc', sfc', sbr', sle', va_up yhs p u0, ysp', yct', gc', gf', gh', gch', gu', at', _, pk', pa', pn', _, m', a, past', chg', fit', giv', cm', _, nI q, nI l, 0, rfl, rfl, fun _ => rfl, zRel_mono k3 (by omega), zHist_mono w3 (by omega)⟩
    · rw [show f_X9_runScript_L49 eA (va_up yhs p u0) (nI p) yct 0 at' (nI (zSc inp l 15 0).2.length) pk' pa' pn' jFU 0 fA hc hp hw hs hb hd ht rc rn ri rb rp rt rf rl bc bh bb bf bl sd sc sbc slc sfc sbr sle gc gf gh gch gu = _ from k1, z_inl, z_inl, if_neg (show ¬ "java/lang/IllegalStateException" = "java/lang/IllegalArgumentException" by decide), if_pos rfl, show f_X10_runScript_L115 a past chg eA 0 cm' (nI (zSc inp l 15 0).2.length) (nI q) (nI l) 0 jFU 0 m fA 0 fit giv = _ from k2, z_inl]
      exact ⟨v2, 2, eA, nI c2, u.1, u.2.1, u.2.2.1, u.2.2.2.1, u.2.2.2.2.1, u.2.2.2.2.2.1, u.2.2.2.2.2.2.1, u.2.2.2.2.2.2.2.1, u.2.2.2.2.2.2.2.2.1, u.2.2.2.2.2.2.2.2.2.1, u.2.2.2.2.2.2.2.2.2.2.1, u.2.2.2.2.2.2.2.2.2.2.2.1, u.2.2.2.2.2.2.2.2.2.2.2.2.1, u.2.2.2.2.2.2.2.2.2.2.2.2.2.1, u.2.2.2.2.2.2.2.2.2.2.2.2.2.2.1, u.2.2.2.2.2.2.2.2.2.2.2.2.2.2.2.1, u.2.2.2.2.2.2.2.2.2.2.2.2.2.2.2.2.1, u.2.2.2.2.2.2.2.2.2.2.2.2.2.2.2.2.2.1, u.2.2.2.2.2.2.2.2.2.2.2.2.2.2.2.2.2.2.1, u.2.2.2.2.2.2.2.2.2.2.2.2.2.2.2.2.2.2.2.1, u.2.2.2.2.2.2.2.2.2.2.2.2.2.2.2.2.2.2.2.2.1, u.2.2.2.2.2.2.2.2.2.2.2.2.2.2.2.2.2.2.2.2.2.1, u.2.2.2.2.2.2.2.2.2.2.2.2.2.2.2.2.2.2.2.2.2.2.1, u.2.2.2.2.2.2.2.2.2.2.2.2.2.2.2.2.2.2.2.2.2.2.2.1, u.2.2.2.2.2.2.2.2.2.2.2.2.2.2.2.2.2.2.2.2.2.2.2.2.1, u.2.2.2.2.2.2.2.2.2.2.2.2.2.2.2.2.2.2.2.2.2.2.2.2.2.1, u.2.2.2.2.2.2.2.2.2.2.2.2.2.2.2.2.2.2.2.2.2.2.2.2.2.2, va_up yhs p u0, nI p, yct, gc', gf', gh', gch', gu', at', _, pk', pa', pn', out, m', a, past, chg, fit', giv', cm', _, nI q, nI l, 0, rfl, rfl, fun h => absurd h (by decide), zRelS_mono k3 (by omega), zHist_mono (zHist_mark u0 Y0 hp9) (by omega)⟩
set_option maxHeartbeats 4000000 in
set_option maxRecDepth 100000 in
theorem p_47 : l47 := by
  intro T s I hT
  obtain ⟨IR, IY, IS, IX, IE, IF, IL, IB, IO⟩ := I
  obtain ⟨v, cd, eA', fA', hc', hp', hw', hs', hb', hd', ht', rc', rn', ri', rb', rp', rt', rf', rl', bc', bh', bb', bf', bl', sd', sc', sbc', slc', sfc', sbr', sle', yhs', ysp', yct', gc', gf', gh', gch', gu', at', ct', pk', pa', pn', out', m', as', past', chg', fit', giv', cm', cn', pl', sz', wr', h1, h2, h3, h4, h5⟩ := do_runScript IR IY IX hT s.2.2.2.2.2.2.2.2.1.2.2.2.2.2.2.1 s.2.2.2.2.2.2.2.2.1.2.2.2.2.2.2.2.1 s.2.2.2.2.2.2.2.2.1.2.2.2.2.2.2.2.2.1 s.2.2.2.2.2.2.1.2.2.1 s.2.2.2.2.2.2.1.2.2.2.1 s.2.2.2.2.2.2.1.2.2.2.2.2.2 s.2.2.2.2.2.2.2.2.1.2.2.2.2.2.2.2.2.2.2.2.2.2.2.2.2.2.2.2.1 s.2.2.2.2.2.2.2.2.1.2.2.2.2.2.2.2.2.2.2.2.2.2.2.2.2.2.2.2.2.1 s.2.2.2.2.2.2.2.2.1.2.2.2.2.2.2.2.2.2.2.2.2.2.2.2.2.2.2.2.2.2.1 s.2.2.2.2.2.2.2.2.1.2.2.2.2.2.2.2.2.2.2.2.2.2.2.2.2.2.2.2.2.2.2 s.2.2.2.2.1.1 s.2.2.2.2.1.2.2.2.2 s.2.2.2.2.1.2.1 s.2.2.2.2.1.2.2.1 s.2.2.2.2.1.2.2.2.1 s.2.2.2.2.2.2.2.2.1.2.2.2.2.2.2.2.2.2.2.2.1 s.2.2.2.2.2.2.2.2.1.2.2.2.2.2.2.2.2.2.2.2.2.1 s.2.2.2.2.2.2.2.2.1.2.1 s.2.2.2.2.2.2.1.2.2.2.2.1 s.2.2.2.2.2.2.1.2.2.2.2.2.1 s.2.2.2.2.2.2.2.2.1.2.2.2.2.2.2.2.2.2.2.2.2.2.2.2.2.2.2.1 s.2.2.2.2.2.2.2.2.2.1
  obtain ⟨l, hl, -, -, hpt⟩ := IX
  apply Exists.intro
  apply And.intro
  · unfold lT_47 f_law_47
    rw [IE, IF, IL, IB, h1, z_bind, h2, z_bind]
    dsimp only
    rw [l_thr, z_bind, if_pos rfl, l_std h3]
    rfl
  · exact ⟨h4, h5, zSnap_mono IS (by omega), ⟨0, by omega, rfl, rfl, fun k hk => absurd hk (Nat.not_lt_zero k)⟩, rfl, rfl, by first | rfl | exact IL, by first | rfl | exact IB, IO⟩

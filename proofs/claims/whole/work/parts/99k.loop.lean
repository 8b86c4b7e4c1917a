/-! RUNNING THE COMMANDS -/
theorem x10_back140 (m sv : Nat → Int32) : ∃ m', f_X10_runScript_L140 sv jFU 0 m = some (nI 2048, m') ∧ ∀ x, x < 2048 → m' x = sv x := by
  obtain ⟨m', h, e⟩ := pzG (F := f_X10_runScript_L140 sv) (n := 2048) (fun k g => ∀ x, x < k → g x = sv x)
    (fun fu g _ => by rw [f_X10_runScript_L140, if_pos (show (2048 : Int32) ≤ nI 2048 by decide)])
    (fun fu k g hk hg => by
      refine ⟨upd g k (sv k), fun x hx => ?_, ?_⟩
      · unfold upd
        by_cases c : x = k
        · rw [if_pos c, c]
        · rw [if_neg c]; exact hg x (by omega)
      · have j : jin (nI k) 2048 = true := by rw [z_jin (by omega)]; exact decide_eq_true hk
        rw [f_X10_runScript_L140, if_neg (show ¬ (2048 : Int32) ≤ nI k from nI_ge (b := 2048) hk (by decide)), if_pos j, if_pos j, nI_clamp (by omega), nI_1])
    m jFU (pz_jFU (by omega)) (fun x hx => absurd hx (Nat.not_lt_zero x))
  exact ⟨m', e, h⟩
set_option maxHeartbeats 4000000 in
theorem run_loop {p9 T0 : Nat} {m0 a : Nat → Int32} {yhs : Nat → SB} (hp9 : p9 < 9) (U : zRelS T0 (yhs p9) m0) (ea : ∀ x, x < 2048 → a x = m0 x) {n : Nat} (hn : n ≤ 15) {pk pa cm : Nat → Int32} (eA yct pl at0 pn fA mf chg eM im pl0 sz wr : Int32) (past : Nat → Int32) : ∀ (cs : List (Nat × List Int32)) (c T fu : Nat) (hc rc rn bc sd sc sbc slc sfc sbr sle : Int32) (hp hw hs hb hd ht ri rb rp rt rf rl bh bb bf bl : Nat → Int32) (m : Nat → Int32) (gc gu : Int32) (gf gh gch fit giv : Nat → Int32), c + cs.length = n → cs.length < fu → zRel T hc hp hw hs hb hd ht rc rn ri rb rp rt rf rl bc bh bb bf bl sd sc sbc slc sfc sbr sle m → T + 31 * cs.length ≤ 999000 → zCm c cs pk pa → zCk c cs cm → (∀ q ∈ cs, q.1 < 10 ∧ zAy q.1 ≤ q.2.length) →
    (∃ hc' hp' hw' hs' hb' hd' ht' rc' rn' ri' rb' rp' rt' rf' rl' bc' bh' bb' bf' bl' sd' sc' sbc' slc' sfc' sbr' sle' gc' gf' gh' gch' gu' m' fit' giv', f_X9_runScript_L49 eA yhs (nI p9) yct pl at0 (nI n) pk pa pn fu (nI c) fA hc hp hw hs hb hd ht rc rn ri rb rp rt rf rl bc bh bb bf bl sd sc sbc slc sfc sbr sle gc gf gh gch gu = some (.inr (nI n, fA, hc', hp', hw', hs', hb', hd', ht', rc', rn', ri', rb', rp', rt', rf', rl', bc', bh', bb', bf', bl', sd', sc', sbc', slc', sfc', sbr', sle', gc', gf', gh', gch', gu')) ∧ f_X10_runScript_L115 a past chg eM im cm (nI n) pl0 sz wr fu (nI c) m mf 0 fit giv = some (.inr (nI n, m', mf, 0, fit', giv')) ∧ zRel (T + 31 * cs.length) hc' hp' hw' hs' hb' hd' ht' rc' rn' ri' rb' rp' rt' rf' rl' bc' bh' bb' bf' bl' sd' sc' sbc' slc' sfc' sbr' sle' m') ∨
    (∃ (c2 : Nat) (u : SB) (gc' : Int32) (gf' gh' gch' : Nat → Int32) (gu' v : Int32) (m' fit' giv' : Nat → Int32), f_X9_runScript_L49 eA yhs (nI p9) yct pl at0 (nI n) pk pa pn fu (nI c) fA hc hp hw hs hb hd ht rc rn ri rb rp rt rf rl bc bh bb bf bl sd sc sbc slc sfc sbr sle gc gf gh gch gu = some (.inl (.inl ("java/lang/IllegalStateException", eA, nI c2, u.1, u.2.1, u.2.2.1, u.2.2.2.1, u.2.2.2.2.1, u.2.2.2.2.2.1, u.2.2.2.2.2.2.1, u.2.2.2.2.2.2.2.1, u.2.2.2.2.2.2.2.2.1, u.2.2.2.2.2.2.2.2.2.1, u.2.2.2.2.2.2.2.2.2.2.1, u.2.2.2.2.2.2.2.2.2.2.2.1, u.2.2.2.2.2.2.2.2.2.2.2.2.1, u.2.2.2.2.2.2.2.2.2.2.2.2.2.1, u.2.2.2.2.2.2.2.2.2.2.2.2.2.2.1, u.2.2.2.2.2.2.2.2.2.2.2.2.2.2.2.1, u.2.2.2.2.2.2.2.2.2.2.2.2.2.2.2.2.1, u.2.2.2.2.2.2.2.2.2.2.2.2.2.2.2.2.2.1, u.2.2.2.2.2.2.2.2.2.2.2.2.2.2.2.2.2.2.1, u.2.2.2.2.2.2.2.2.2.2.2.2.2.2.2.2.2.2.2.1, u.2.2.2.2.2.2.2.2.2.2.2.2.2.2.2.2.2.2.2.2.1, u.2.2.2.2.2.2.2.2.2.2.2.2.2.2.2.2.2.2.2.2.2.1, u.2.2.2.2.2.2.2.2.2.2.2.2.2.2.2.2.2.2.2.2.2.2.1, u.2.2.2.2.2.2.2.2.2.2.2.2.2.2.2.2.2.2.2.2.2.2.2.1, u.2.2.2.2.2.2.2.2.2.2.2.2.2.2.2.2.2.2.2.2.2.2.2.2.1, u.2.2.2.2.2.2.2.2.2.2.2.2.2.2.2.2.2.2.2.2.2.2.2.2.2.1, u.2.2.2.2.2.2.2.2.2.2.2.2.2.2.2.2.2.2.2.2.2.2.2.2.2.2, yhs, nI p9, yct, gc', gf', gh', gch', gu', pl, at0, nI n, pk, pa, pn))) ∧ f_X10_runScript_L115 a past chg eM im cm (nI n) pl0 sz wr fu (nI c) m mf 0 fit giv = some (.inl (v, m', a, past, chg, eM, nI c2, 2, im, fit', giv', cm, nI n, pl0, sz, wr)) ∧ zRelS T0 u m') := by
  intro cs
  induction cs with
  | nil =>
    intro c T fu hc rc rn bc sd sc sbc slc sfc sbr sle hp hw hs hb hd ht ri rb rp rt rf rl bh bb bf bl m gc gu gf gh gch fit giv hcl hf R hT _ _ _
    obtain ⟨fu, rfl⟩ : ∃ g, fu = g + 1 := ⟨fu - 1, by omega⟩
    have e : c = n := hcl
    subst e
    rw [f_X9_runScript_L49, f_X10_runScript_L115, show f_X6_size (nI c) = some (nI c) from rfl, z_bind, if_pos (nI_le (Nat.le_refl _) (by omega)), if_pos (nI_le (Nat.le_refl _) (by omega))]
    exact Or.inl ⟨hc, hp, hw, hs, hb, hd, ht, rc, rn, ri, rb, rp, rt, rf, rl, bc, bh, bb, bf, bl, sd, sc, sbc, slc, sfc, sbr, sle, gc, gf, gh, gch, gu, m, fit, giv, rfl, rfl, R⟩
  | cons q cs ih =>
    intro c T fu hc rc rn bc sd sc sbc slc sfc sbr sle hp hw hs hb hd ht ri rb rp rt rf rl bh bb bf bl m gc gu gf gh gch fit giv hcl hf R hT h1 h2 h3
    obtain ⟨fu, rfl⟩ : ∃ g, fu = g + 1 := ⟨fu - 1, by omega⟩
    simp only [List.length_cons] at hcl hf hT
    have hq := h3 q List.mem_cons_self
    have hcn : c < n := by omega
    rw [f_X9_runScript_L49, f_X10_runScript_L115, show f_X6_size (nI n) = some (nI n) from rfl, z_bind, if_neg (nI_ge hcn (by omega)), if_neg (nI_ge hcn (by omega)), show (6 : Int32) * nI c = nI (6 * c) from z_lmul c 6]
    have hv : ∀ x, x < zAy q.1 → pa (5 * c + x) = cm (6 * c + 1 + x) := fun x hx => by rw [h1.1.2 x (by omega), h2.1.2 x (by omega)]
    rcases op_perform R (by omega) gc gu gf gh gch fit giv hcn hn hq.1 h1.1.1 h2.1.1 hv with ⟨v, th', hv0, hth, e1, e2⟩ | ⟨v, hc', hp', hw', hs', hb', hd', ht', rc', rn', ri', rb', rp', rt', rf', rl', bc', bh', bb', bf', bl', sd', sc', sbc', slc', sfc', sbr', sle', gc', gf', gh', gch', gu', m', fit', giv', hv0, e1, e2, R'⟩
    · obtain ⟨m', b1, b2⟩ := x10_back140 m a
      obtain ⟨u, r1, r2⟩ := x3_revert (m' := m') yhs hc rc rn bc sd sc sbc slc sfc sbr sle hp hw hs hb hd ht ri rb rp rt rf rl bh bb bf bl hp9 U (fun x hx => by rw [b2 x hx, ea x hx])
      rw [e1, z_bind, e2, z_bind]
      dsimp only
      rw [if_neg hv0, if_neg hth, r1, z_bind, b1, z_bind]
      exact Or.inr ⟨c, u, gc, gf, gh, gch, gu, -1, m', fit, giv, rfl, rfl, r2⟩
    · rw [e1, z_bind, e2, z_bind]
      dsimp only
      rw [if_pos hv0, if_pos (show (0 : Int32) ≤ 0 by decide), nI_1]
      rcases ih (c + 1) (T + 31) fu hc' rc' rn' bc' sd' sc' sbc' slc' sfc' sbr' sle' hp' hw' hs' hb' hd' ht' ri' rb' rp' rt' rf' rl' bh' bb' bf' bl' m' gc' gu' gf' gh' gch' fit' giv' (by omega) (by omega) R' (by omega) h1.2 h2.2 (fun q hq => h3 q (List.mem_cons_of_mem _ hq)) with ⟨hc2, hp2, hw2, hs2, hb2, hd2, ht2, rc2, rn2, ri2, rb2, rp2, rt2, rf2, rl2, bc2, bh2, bb2, bf2, bl2, sd2, sc2, sbc2, slc2, sfc2, sbr2, sle2, gc2, gf2, gh2, gch2, gu2, m2, fit2, giv2, k1, k2, k3⟩ | ⟨c2, u, gc2, gf2, gh2, gch2, gu2, v2, m2, fit2, giv2, k1, k2, k3⟩
      · exact Or.inl ⟨hc2, hp2, hw2, hs2, hb2, hd2, ht2, rc2, rn2, ri2, rb2, rp2, rt2, rf2, rl2, bc2, bh2, bb2, bf2, bl2, sd2, sc2, sbc2, slc2, sfc2, sbr2, sle2, gc2, gf2, gh2, gch2, gu2, m2, fit2, giv2, k1, k2, zRel_mono k3 (by simp only [List.length_cons]; omega)⟩
      · exact Or.inr ⟨c2, u, gc2, gf2, gh2, gch2, gu2, v2, m2, fit2, giv2, k1, k2, k3⟩

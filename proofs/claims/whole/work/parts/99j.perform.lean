/-! RUNNING A COMMAND -/
def zAy (k : Nat) : Nat := match k with | 0 => 2 | 1 => 2 | 2 => 3 | 3 => 5 | 4 => 1 | 5 => 1 | 6 => 0 | 7 => 3 | 8 => 1 | _ => 1
theorem x6_argument {c n j : Nat} (pa : Nat → Int32) (hc : c < n) (hn : n ≤ 15) (hj : j < 5) : f_X6_argument (nI n) pa (nI c) (nI j) = some (pa (5 * c + j)) := by
  have e : nI c * 5 + nI j = nI (5 * c + j) := by
    have e1 : ∀ c, c < 15 → nI c * 5 = nI (5 * c) := by decide +kernel
    rw [e1 c (by omega), nI_add]
  unfold f_X6_argument
  rw [if_neg (nI_pos (by omega)), if_neg (nI_ge hc (by omega)), if_neg (show ¬ (15 : Int32) ≤ nI c from nI_ge (b := 15) (by omega) (by decide)), if_neg (nI_pos (by omega)), if_neg (show ¬ (5 : Int32) ≤ nI j from nI_ge (b := 5) hj (by decide)), e, if_pos (by rw [z_jin (by omega)]; exact decide_eq_true (by omega)), nI_clamp (by omega)]
theorem x6_kindOf {c n : Nat} (pk : Nat → Int32) (hc : c < n) (hn : n ≤ 15) : f_X6_kindOf (nI n) pk (nI c) = some (pk c) := by
  unfold f_X6_kindOf
  rw [if_neg (nI_pos (by omega)), if_neg (nI_ge hc (by omega)), if_neg (show ¬ (15 : Int32) ≤ nI c from nI_ge (b := 15) (by omega) (by decide)), if_pos (by rw [z_jin (by omega)]; exact decide_eq_true (by omega)), nI_clamp (by omega)]
set_option maxHeartbeats 4000000 in
theorem op_perform {T : Nat} {hc rc rn bc sd sc sbc slc sfc sbr sle : Int32} {hp hw hs hb hd ht ri rb rp rt rf rl bh bb bf bl : Nat → Int32} {m : Nat → Int32} (R : zRel T hc hp hw hs hb hd ht rc rn ri rb rp rt rf rl bc bh bb bf bl sd sc sbc slc sfc sbr sle m) (hT : T ≤ 999000) (gc gu : Int32) (gf gh gch fit giv : Nat → Int32) {n c k : Nat} {pk pa cm : Nat → Int32} (hcn : c < n) (hn : n ≤ 15) (hk : k < 10) (hkd : pk c = nI k) (hm : cm (6 * c) = nI k) (hv : ∀ x, x < zAy k → pa (5 * c + x) = cm (6 * c + 1 + x)) :
    (∃ v th', ¬ 0 ≤ v ∧ ¬ th' ≤ 0 ∧ f_X9_perform hc hp hw hs hb hd ht rc rn ri rb rp rt rf rl bc bh bb bf bl sd sc sbc slc sfc sbr sle gc gf gh gch gu (nI n) pk pa (nI c) = some (v, hc, hp, hw, hs, hb, hd, ht, rc, rn, ri, rb, rp, rt, rf, rl, bc, bh, bb, bf, bl, sd, sc, sbc, slc, sfc, sbr, sle, gc, gf, gh, gch, gu) ∧ f_X10_does m 0 fit giv cm (nI (6 * c)) = some (m, th', fit, giv)) ∨
    (∃ v hc' hp' hw' hs' hb' hd' ht' rc' rn' ri' rb' rp' rt' rf' rl' bc' bh' bb' bf' bl' sd' sc' sbc' slc' sfc' sbr' sle' gc' gf' gh' gch' gu' m' fit' giv', 0 ≤ v ∧ f_X9_perform hc hp hw hs hb hd ht rc rn ri rb rp rt rf rl bc bh bb bf bl sd sc sbc slc sfc sbr sle gc gf gh gch gu (nI n) pk pa (nI c) = some (v, hc', hp', hw', hs', hb', hd', ht', rc', rn', ri', rb', rp', rt', rf', rl', bc', bh', bb', bf', bl', sd', sc', sbc', slc', sfc', sbr', sle', gc', gf', gh', gch', gu') ∧ f_X10_does m 0 fit giv cm (nI (6 * c)) = some (m', 0, fit', giv') ∧ zRel (T + 31) hc' hp' hw' hs' hb' hd' ht' rc' rn' ri' rb' rp' rt' rf' rl' bc' bh' bb' bf' bl' sd' sc' sbc' slc' sfc' sbr' sle' m') := by
  have j0 := jin_a (a := 6 * c) (by omega)
  have j1 := jin_a (a := 6 * c + 1) (by omega)
  have j2 := jin_a (a := 6 * c + 2) (by omega)
  have j3 := jin_a (a := 6 * c + 3) (by omega)
  have c0 : (nI (6 * c)).toNatClampNeg = 6 * c := nI_clamp (by omega)
  have c1 : (nI (6 * c + 1)).toNatClampNeg = 6 * c + 1 := nI_clamp (by omega)
  have c2 : (nI (6 * c + 2)).toNatClampNeg = 6 * c + 2 := nI_clamp (by omega)
  have c3 : (nI (6 * c + 3)).toNatClampNeg = 6 * c + 3 := nI_clamp (by omega)
  have n1 : nI (6 * c) + 1 = nI (6 * c + 1) := nI_1 _
  have n2 : nI (6 * c) + 2 = nI (6 * c + 2) := nI_add _ 2
  have n3 : nI (6 * c) + 3 = nI (6 * c + 3) := nI_add _ 3
  have a0 : f_X6_argument (nI n) pa (nI c) 0 = _ := x6_argument (j := 0) pa hcn hn (by omega)
  have a1 : f_X6_argument (nI n) pa (nI c) 1 = _ := x6_argument (j := 1) pa hcn hn (by omega)
  have a2 : f_X6_argument (nI n) pa (nI c) 2 = _ := x6_argument (j := 2) pa hcn hn (by omega)
  have nn : ∀ j : Nat, j < 1000000 → (0 : Int32) ≤ nI j := fun j h => nI_pos' (by omega)
  unfold f_X9_perform f_X10_does
  rw [a0, z_bind, a1, z_bind, a2, z_bind, x6_kindOf pk hcn hn, z_bind, hkd, n1, n2, n3, if_pos j1, if_pos j2, if_pos j3, if_pos j0, c0, c1, c2, c3, hm]
  rcases (show k = 0 ∨ k = 1 ∨ k = 2 ∨ k = 3 ∨ k = 4 ∨ k = 5 ∨ k = 6 ∨ k = 7 ∨ k = 8 ∨ k = 9 by omega) with rfl | rfl | rfl | rfl | rfl | rfl | rfl | rfl | rfl | rfl
  · rw [if_pos (show nI 0 = 0 from rfl), if_pos (show nI 0 = 0 from rfl)]
    rw [show pa (5 * c + 0) = cm (6 * c + 1 + 0) from hv 0 (by decide)]
    rw [show pa (5 * c + 1) = cm (6 * c + 1 + 1) from hv 1 (by decide)]
    rcases op_enlist R 0 (cm (6 * c + 1 + 0)) (cm (6 * c + 1 + 1)) with ⟨cx, th', hcc, e1, e2⟩ | ⟨j, hc', hp', hw', hs', ht', m', hj, e1, e2, R'⟩
    · rw [e1, z_bind, e2, z_bind]
      exact Or.inl ⟨cx, th', by rcases hcc with h | h | h <;> (rw [h.1]; decide), by rcases hcc with h | h | h <;> (rw [h.2]; decide), rfl, rfl⟩
    · rw [e1, z_bind, e2, z_bind]
      exact Or.inr ⟨nI j, hc', hp', hw', hs', hb, hd, ht', rc, rn, ri, rb, rp, rt, rf, rl, bc, bh, bb, bf, bl, sd, sc, sbc, slc, sfc, sbr, sle, gc, gf, gh, gch, gu, m', fit, giv, nn j (by omega), rfl, rfl, zRel_mono R' (by omega)⟩
  · rw [if_neg (show ¬ nI 1 = 0 by decide), if_pos (show nI 1 = 1 from rfl), if_neg (show ¬ nI 1 = 0 by decide), if_pos (show nI 1 = 1 from rfl)]
    rw [show pa (5 * c + 0) = cm (6 * c + 1 + 0) from hv 0 (by decide)]
    rw [show pa (5 * c + 1) = cm (6 * c + 1 + 1) from hv 1 (by decide)]
    rcases op_carry R 0 (cm (6 * c + 1 + 0)) (cm (6 * c + 1 + 1)) with ⟨cx, th', hcc, e1, e2⟩ | ⟨j, hs', ht', m', hj, e1, e2, R'⟩
    · rw [e1, z_bind, e2, z_bind]
      exact Or.inl ⟨cx, th', by rcases hcc with h | h <;> (rw [h.1]; decide), by rcases hcc with h | h <;> (rw [h.2]; decide), rfl, rfl⟩
    · rw [e1, z_bind, e2, z_bind]
      exact Or.inr ⟨nI j, hc, hp, hw, hs', hb, hd, ht', rc, rn, ri, rb, rp, rt, rf, rl, bc, bh, bb, bf, bl, sd, sc, sbc, slc, sfc, sbr, sle, gc, gf, gh, gch, gu, m', fit, giv, nn j (by omega), rfl, rfl, zRel_mono R' (by omega)⟩
  · rw [if_neg (show ¬ nI 2 = 0 by decide), if_neg (show ¬ nI 2 = 1 by decide), if_pos (show nI 2 = 2 from rfl), if_neg (show ¬ nI 2 = 0 by decide), if_neg (show ¬ nI 2 = 1 by decide), if_pos (show nI 2 = 2 from rfl)]
    rw [show pa (5 * c + 0) = cm (6 * c + 1 + 0) from hv 0 (by decide)]
    rw [show pa (5 * c + 1) = cm (6 * c + 1 + 1) from hv 1 (by decide)]
    rw [show pa (5 * c + 2) = cm (6 * c + 1 + 2) from hv 2 (by decide)]
    rcases op_exchange R 0 (cm (6 * c + 1 + 0)) (cm (6 * c + 1 + 1)) (cm (6 * c + 1 + 2)) with ⟨cx, th', hcc, e1, e2⟩ | ⟨j, hs', ht', m', hj, e1, e2, R'⟩
    · rw [e1, z_bind, e2, z_bind]
      exact Or.inl ⟨cx, th', by rcases hcc with h | h <;> (rw [h.1]; decide), by rcases hcc with h | h <;> (rw [h.2]; decide), rfl, rfl⟩
    · rw [e1, z_bind, e2, z_bind]
      exact Or.inr ⟨nI j, hc, hp, hw, hs', hb, hd, ht', rc, rn, ri, rb, rp, rt, rf, rl, bc, bh, bb, bf, bl, sd, sc, sbc, slc, sfc, sbr, sle, gc, gf, gh, gch, gu, m', fit, giv, nn j (by omega), rfl, rfl, zRel_mono R' (by omega)⟩
  · rw [if_neg (show ¬ nI 3 = 0 by decide), if_neg (show ¬ nI 3 = 1 by decide), if_neg (show ¬ nI 3 = 2 by decide), if_pos (show nI 3 = 3 from rfl), if_neg (show ¬ nI 3 = 0 by decide), if_neg (show ¬ nI 3 = 1 by decide), if_neg (show ¬ nI 3 = 2 by decide), if_pos (show nI 3 = 3 from rfl)]
    rw [show pa (5 * c + 0) = cm (6 * c + 1 + 0) from hv 0 (by decide)]
    rw [show pa (5 * c + 1) = cm (6 * c + 1 + 1) from hv 1 (by decide)]
    rw [show pa (5 * c + 2) = cm (6 * c + 1 + 2) from hv 2 (by decide)]
    have a3 : f_X6_argument (nI n) pa (nI c) 3 = _ := x6_argument (j := 3) pa hcn hn (by omega)
    have a4 : f_X6_argument (nI n) pa (nI c) 4 = _ := x6_argument (j := 4) pa hcn hn (by omega)
    have j4 := jin_a (a := 6 * c + 4) (by omega)
    have j5 := jin_a (a := 6 * c + 5) (by omega)
    have c4 : (nI (6 * c + 4)).toNatClampNeg = 6 * c + 4 := nI_clamp (by omega)
    have c5 : (nI (6 * c + 5)).toNatClampNeg = 6 * c + 5 := nI_clamp (by omega)
    have n4 : nI (6 * c) + 4 = nI (6 * c + 4) := nI_add _ 4
    have n5 : nI (6 * c) + 5 = nI (6 * c + 5) := nI_add _ 5
    rw [a3, z_bind, a4, z_bind, n4, n5, if_pos j4, if_pos j5, c4, c5, show pa (5 * c + 3) = cm (6 * c + 1 + 3) from hv 3 (by decide), show pa (5 * c + 4) = cm (6 * c + 1 + 4) from hv 4 (by decide)]
    rcases op_ask R (by omega) 0 (cm (6 * c + 1 + 0)) (cm (6 * c + 1 + 1)) (cm (6 * c + 1 + 2)) (cm (6 * c + 1 + 3)) (cm (6 * c + 1 + 4)) with ⟨cx, th', hcc, e1, e2⟩ | ⟨j, rc', rn', ri', rb', rp', rt', rf', rl', m', hj, e1, e2, R'⟩
    · rw [e1, z_bind, e2, z_bind]
      exact Or.inl ⟨cx, th', by rcases hcc with h | h <;> (rw [h.1]; decide), by rcases hcc with h | h <;> (rw [h.2]; decide), rfl, rfl⟩
    · rw [e1, z_bind, e2, z_bind]
      exact Or.inr ⟨nI j, hc, hp, hw, hs, hb, hd, ht, rc', rn', ri', rb', rp', rt', rf', rl', bc, bh, bb, bf, bl, sd, sc, sbc, slc, sfc, sbr, sle, gc, gf, gh, gch, gu, m', fit, giv, nn j (by omega), rfl, rfl, zRel_mono R' (by omega)⟩
  · rw [if_neg (show ¬ nI 4 = 0 by decide), if_neg (show ¬ nI 4 = 1 by decide), if_neg (show ¬ nI 4 = 2 by decide), if_neg (show ¬ nI 4 = 3 by decide), if_pos (show nI 4 = 4 from rfl), if_neg (show ¬ nI 4 = 0 by decide), if_neg (show ¬ nI 4 = 1 by decide), if_neg (show ¬ nI 4 = 2 by decide), if_neg (show ¬ nI 4 = 3 by decide), if_pos (show nI 4 = 4 from rfl)]
    rw [show pa (5 * c + 0) = cm (6 * c + 1 + 0) from hv 0 (by decide)]
    rcases op_drop R 0 (cm (6 * c + 1 + 0)) with ⟨e1, e2⟩ | ⟨j, rc', ri', rb', rp', rt', rf', rl', m', hj, e1, e2, R'⟩
    · rw [e1, z_bind, e2, z_bind]
      exact Or.inl ⟨-4, 1, by decide, by decide, rfl, rfl⟩
    · rw [e1, z_bind, e2, z_bind]
      exact Or.inr ⟨nI j, hc, hp, hw, hs, hb, hd, ht, rc', rn, ri', rb', rp', rt', rf', rl', bc, bh, bb, bf, bl, sd, sc, sbc, slc, sfc, sbr, sle, gc, gf, gh, gch, gu, m', fit, giv, nn j (by omega), rfl, rfl, zRel_mono R' (by omega)⟩
  · rw [if_neg (show ¬ nI 5 = 0 by decide), if_neg (show ¬ nI 5 = 1 by decide), if_neg (show ¬ nI 5 = 2 by decide), if_neg (show ¬ nI 5 = 3 by decide), if_neg (show ¬ nI 5 = 4 by decide), if_pos (show nI 5 = 5 from rfl), if_neg (show ¬ nI 5 = 0 by decide), if_neg (show ¬ nI 5 = 1 by decide), if_neg (show ¬ nI 5 = 2 by decide), if_neg (show ¬ nI 5 = 3 by decide), if_neg (show ¬ nI 5 = 4 by decide), if_pos (show nI 5 = 5 from rfl)]
    rw [show pa (5 * c + 0) = cm (6 * c + 1 + 0) from hv 0 (by decide)]
    rcases op_grantBest R 0 (cm (6 * c + 1 + 0)) with ⟨cx, th', hcc, e1, e2⟩ | ⟨j, rc', ri', rb', rp', rt', rf', rl', bc', bh', bb', bf', bl', sc', sbc', m', hj, e1, e2, R'⟩
    · rw [e1, z_bind, e2, z_bind]
      exact Or.inl ⟨cx, th', by rcases hcc with h | h | h <;> (rw [h.1]; decide), by rcases hcc with h | h | h <;> (rw [h.2]; decide), rfl, rfl⟩
    · rw [e1, z_bind, e2, z_bind]
      exact Or.inr ⟨nI j, hc, hp, hw, hs, hb, hd, ht, rc', rn, ri', rb', rp', rt', rf', rl', bc', bh', bb', bf', bl', sd, sc', sbc', slc, sfc, sbr, sle, gc, gf, gh, gch, gu, m', fit, giv, nn j (by omega), rfl, rfl, zRel_mono R' (by omega)⟩
  · rw [if_neg (show ¬ nI 6 = 0 by decide), if_neg (show ¬ nI 6 = 1 by decide), if_neg (show ¬ nI 6 = 2 by decide), if_neg (show ¬ nI 6 = 3 by decide), if_neg (show ¬ nI 6 = 4 by decide), if_neg (show ¬ nI 6 = 5 by decide), if_pos (show nI 6 = 6 from rfl), if_neg (show ¬ nI 6 = 0 by decide), if_neg (show ¬ nI 6 = 1 by decide), if_neg (show ¬ nI 6 = 2 by decide), if_neg (show ¬ nI 6 = 3 by decide), if_neg (show ¬ nI 6 = 4 by decide), if_neg (show ¬ nI 6 = 5 by decide), if_pos (show nI 6 = 6 from rfl)]
    obtain ⟨j, rc', ri', rb', rp', rt', rf', rl', bc', bh', bb', bf', bl', sc', sbc', gc', gf', gh', gch', gu', m', fit', giv', hj, e1, e2, R'⟩ := op_together R gc gf gh gch gu fit giv
    rw [e1, z_bind, e2, z_bind]
    exact Or.inr ⟨nI j, hc, hp, hw, hs, hb, hd, ht, rc', rn, ri', rb', rp', rt', rf', rl', bc', bh', bb', bf', bl', sd, sc', sbc', slc, sfc, sbr, sle, gc', gf', gh', gch', gu', m', fit', giv', nn j hj, rfl, rfl, zRel_mono R' (by omega)⟩
  · rw [if_neg (show ¬ nI 7 = 0 by decide), if_neg (show ¬ nI 7 = 1 by decide), if_neg (show ¬ nI 7 = 2 by decide), if_neg (show ¬ nI 7 = 3 by decide), if_neg (show ¬ nI 7 = 4 by decide), if_neg (show ¬ nI 7 = 5 by decide), if_neg (show ¬ nI 7 = 6 by decide), if_pos (show nI 7 = 7 from rfl), if_neg (show ¬ nI 7 = 0 by decide), if_neg (show ¬ nI 7 = 1 by decide), if_neg (show ¬ nI 7 = 2 by decide), if_neg (show ¬ nI 7 = 3 by decide), if_neg (show ¬ nI 7 = 4 by decide), if_neg (show ¬ nI 7 = 5 by decide), if_neg (show ¬ nI 7 = 6 by decide), if_pos (show nI 7 = 7 from rfl)]
    rw [show pa (5 * c + 0) = cm (6 * c + 1 + 0) from hv 0 (by decide)]
    rw [show pa (5 * c + 1) = cm (6 * c + 1 + 1) from hv 1 (by decide)]
    rw [show pa (5 * c + 2) = cm (6 * c + 1 + 2) from hv 2 (by decide)]
    rcases op_takeBack R 0 (cm (6 * c + 1 + 0)) (cm (6 * c + 1 + 1)) (cm (6 * c + 1 + 2)) with ⟨cx, th', hcc, e1, e2⟩ | ⟨j, hw', hs', ht', sc', slc', m', hj, e1, e2, R'⟩
    · rw [e1, z_bind, e2, z_bind]
      exact Or.inl ⟨cx, th', by rcases hcc with h | h | h <;> (rw [h.1]; decide), by rcases hcc with h | h | h <;> (rw [h.2]; decide), rfl, rfl⟩
    · rw [e1, z_bind, e2, z_bind]
      exact Or.inr ⟨nI j, hc, hp, hw', hs', hb, hd, ht', rc, rn, ri, rb, rp, rt, rf, rl, bc, bh, bb, bf, bl, sd, sc', sbc, slc', sfc, sbr, sle, gc, gf, gh, gch, gu, m', fit, giv, nn j (by omega), rfl, rfl, zRel_mono R' (by omega)⟩
  · rw [if_neg (show ¬ nI 8 = 0 by decide), if_neg (show ¬ nI 8 = 1 by decide), if_neg (show ¬ nI 8 = 2 by decide), if_neg (show ¬ nI 8 = 3 by decide), if_neg (show ¬ nI 8 = 4 by decide), if_neg (show ¬ nI 8 = 5 by decide), if_neg (show ¬ nI 8 = 6 by decide), if_neg (show ¬ nI 8 = 7 by decide), if_pos (show nI 8 = 8 from rfl), if_neg (show ¬ nI 8 = 0 by decide), if_neg (show ¬ nI 8 = 1 by decide), if_neg (show ¬ nI 8 = 2 by decide), if_neg (show ¬ nI 8 = 3 by decide), if_neg (show ¬ nI 8 = 4 by decide), if_neg (show ¬ nI 8 = 5 by decide), if_neg (show ¬ nI 8 = 6 by decide), if_neg (show ¬ nI 8 = 7 by decide), if_pos (show nI 8 = 8 from rfl)]
    rw [show pa (5 * c + 0) = cm (6 * c + 1 + 0) from hv 0 (by decide)]
    rcases op_renew R 0 (cm (6 * c + 1 + 0)) with ⟨cx, th', hcc, e1, e2⟩ | ⟨j, hw', sc', sfc', m', hj, e1, e2, R'⟩
    · rw [e1, z_bind, e2, z_bind]
      exact Or.inl ⟨cx, th', by rcases hcc with h | h | h <;> (rw [h.1]; decide), by rcases hcc with h | h | h <;> (rw [h.2]; decide), rfl, rfl⟩
    · rw [e1, z_bind, e2, z_bind]
      exact Or.inr ⟨nI j, hc, hp, hw', hs, hb, hd, ht, rc, rn, ri, rb, rp, rt, rf, rl, bc, bh, bb, bf, bl, sd, sc', sbc, slc, sfc', sbr, sle, gc, gf, gh, gch, gu, m', fit, giv, nn j (by omega), rfl, rfl, zRel_mono R' (by omega)⟩
  · rw [if_neg (show ¬ nI 9 = 0 by decide), if_neg (show ¬ nI 9 = 1 by decide), if_neg (show ¬ nI 9 = 2 by decide), if_neg (show ¬ nI 9 = 3 by decide), if_neg (show ¬ nI 9 = 4 by decide), if_neg (show ¬ nI 9 = 5 by decide), if_neg (show ¬ nI 9 = 6 by decide), if_neg (show ¬ nI 9 = 7 by decide), if_neg (show ¬ nI 9 = 8 by decide), if_neg (show ¬ nI 9 = 0 by decide), if_neg (show ¬ nI 9 = 1 by decide), if_neg (show ¬ nI 9 = 2 by decide), if_neg (show ¬ nI 9 = 3 by decide), if_neg (show ¬ nI 9 = 4 by decide), if_neg (show ¬ nI 9 = 5 by decide), if_neg (show ¬ nI 9 = 6 by decide), if_neg (show ¬ nI 9 = 7 by decide), if_neg (show ¬ nI 9 = 8 by decide)]
    rw [show pa (5 * c + 0) = cm (6 * c + 1 + 0) from hv 0 (by decide)]
    rcases op_advance R (by omega) 0 (cm (6 * c + 1 + 0)) with ⟨e1, e2⟩ | ⟨j, hs', hb', hd', ht', bc', bh', bb', bf', bl', sd', sbr', sle', m', hj, e1, e2, R'⟩
    · rw [e1, z_bind, e2, z_bind]
      exact Or.inl ⟨-1, 1, by decide, by decide, rfl, rfl⟩
    · rw [e1, z_bind, e2, z_bind]
      exact Or.inr ⟨nI j, hc, hp, hw, hs', hb', hd', ht', rc, rn, ri, rb, rp, rt, rf, rl, bc', bh', bb', bf', bl', sd', sc, sbc, slc, sfc, sbr', sle', gc, gf, gh, gch, gu, m', fit, giv, nn j (by omega), rfl, rfl, zRel_mono R' (by omega)⟩

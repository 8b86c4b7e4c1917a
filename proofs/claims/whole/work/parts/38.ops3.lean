/-! PURE: asking, granting -/
theorem zRR_add {q T T' i w p d : Nat} {rc rn t f : Int32} {ri rb rp rt rf rl m : Nat → Int32} (R : zRR q T rc rn ri rb rp rt rf rl m) (hq : q < 8) (hi : rn = nI i) (hT : T ≤ T') (hi' : i + 1 ≤ T') (hw : w ≤ 9) (hp : p ≤ 60) (hd : d ≤ T' + 40) : zRR (q + 1) T' (nI (q + 1)) (rn + 1) (upd ri q rn) (upd rb q (nI w)) (upd rp q (nI p)) (upd rt q t) (upd rf q f) (upd rl q (nI d)) (upd (upd (upd (upd (upd (upd (upd (upd m (80 + 6 * q) rn) (80 + 6 * q + 1) (nI w)) (80 + 6 * q + 2) (nI p)) (80 + 6 * q + 3) t) (80 + 6 * q + 4) f) (80 + 6 * q + 5) (nI d)) 4 (nI (q + 1))) 3 (rn + 1)) := by
  obtain ⟨h1, h2, h3, h4, h5, h6, h7⟩ := R
  refine ⟨by omega, rfl, by rw [z_updn _ (by omega), z_upds], by rw [z_upds], ⟨i + 1, hi', by rw [hi, nI_1]⟩, fun k hk => ?_, fun k hk => ?_⟩
  · by_cases c : k = q
    · subst c
      simp (disch := omega) only [z_updn, z_upds, and_self]
    · have := h6 k (by omega)
      simp (disch := omega) only [z_updn, z_upds]
      exact this
  · by_cases c : k = q
    · subst c
      exact ⟨w, p, d, hw, hp, hd, z_upds _ _ _, z_upds _ _ _, z_upds _ _ _⟩
    · rw [z_updn _ c, z_updn _ c, z_updn _ c]
      obtain ⟨w', p', d', a1, a2, a3, a4⟩ := h7 k (by omega)
      exact ⟨w', p', d', a1, a2, by omega, a4⟩
theorem op_ask {T : Nat} {hc : Int32} {hp hw hs hb hd ht : Nat → Int32} {rc rn : Int32} {ri rb rp rt rf rl : Nat → Int32} {bc : Int32} {bh bb bf bl : Nat → Int32} {sd sc sbc slc sfc sbr sle : Int32} {m : Nat → Int32}
    (R : zRel T hc hp hw hs hb hd ht rc rn ri rb rp rt rf rl bc bh bb bf bl sd sc sbc slc sfc sbr sle m) (hT : T ≤ 1000000) (th a0 a1 a2 a3 a4 : Int32) :
    (∃ c th', ((c = -1 ∧ th' = 1) ∨ (c = -3 ∧ th' = 2)) ∧ f_X8_ask rc rn ri rb rp rt rf rl sd a0 a1 a2 a3 a4 = some (c, rc, rn, ri, rb, rp, rt, rf, rl) ∧ f_X10_askIt m th a0 a1 a2 a3 a4 = some (-1, m, th')) ∨
    (∃ j rc' rn' ri' rb' rp' rt' rf' rl' m', j ≤ T ∧ f_X8_ask rc rn ri rb rp rt rf rl sd a0 a1 a2 a3 a4 = some (nI j, rc', rn', ri', rb', rp', rt', rf', rl') ∧ f_X10_askIt m th a0 a1 a2 a3 a4 = some (nI j, m', th) ∧ zRel (T + 1) hc hp hw hs hb hd ht rc' rn' ri' rb' rp' rt' rf' rl' bc bh bb bf bl sd sc sbc slc sfc sbr sle m') := by
  have Rm := zRel_mono R (show T ≤ T + 1 by omega)
  obtain ⟨n, P, W, L, B, D, q, b, d, H, RR, RB, RS⟩ := R
  have R0 := RR
  obtain ⟨h1, h2, h3, h4, ⟨i, h5, h5'⟩, h6, h7⟩ := RR
  obtain ⟨s1, s2, s3, s4, s5, s6, s7⟩ := RS
  subst h2 s2
  unfold f_X8_ask f_X10_askIt
  rcases z_rng a0 (n := 9) (by omega) with ⟨w, hw9, rfl, hin⟩ | ⟨hout, hin⟩
  · rw [z_inG (n := 9) (y := 9) rfl hw9 (by omega), z_inT (y := 0) (z := 9) (nI 0) (nI 9) rfl rfl hin, z_bind, if_neg z_n10]
    rcases z_rng a1 (n := 60) (by omega) with ⟨p, hp60, rfl, hin⟩ | ⟨hout, hin⟩
    · rw [z_inL (n := 60) (y := 60) rfl hp60 (by omega), z_inT (y := 0) (z := 60) (nI 0) (nI 60) rfl rfl hin, z_bind, if_neg z_n10]
      rcases z_rng a2 (n := 12) (by omega) with ⟨t, ht12, rfl, hin⟩ | ⟨hout, hin⟩
      · rw [z_inL (n := 12) (y := 12) rfl ht12 (by omega), z_inT (y := 0) (z := 12) (nI 0) (nI 12) rfl rfl hin, z_bind, if_neg z_n10, if_pos (show jin 1 2048 = true by decide), show (1 : Int32).toNatClampNeg = 1 from rfl, s3]
        by_cases c1 : a3 ≤ nI d
        · rw [if_pos c1, if_pos c1]
          exact Or.inl ⟨-1, 1, Or.inl ⟨rfl, rfl⟩, rfl, rfl⟩
        · rw [if_neg c1, if_neg c1]
          by_cases c2 : a4 < a3
          · rw [if_pos c2, if_pos c2]
            exact Or.inl ⟨-1, 1, Or.inl ⟨rfl, rfl⟩, rfl, rfl⟩
          · rw [if_neg c2, if_neg c2, if_pos (show jin 1 2048 = true by decide)]
            by_cases c3 : a4 ≤ nI d + 40
            · rw [if_pos c3, if_pos c3, x5_isFull h1, z_bind, if_pos (show jin 4 2048 = true by decide), show (4 : Int32).toNatClampNeg = 4 from rfl, h3]
              have e4 : ∃ l, l ≤ d + 40 ∧ a4 = nI l := by
                have g1 : nI d < a3 := fa_of_nle c1
                have g2 : a3 ≤ a4 := fa_of_nlt c2
                have g3 := fa_trans g1 g2
                have g0 : ¬ a4 < 0 := by
                  rw [Int32.lt_iff_toInt_lt] at g3 ⊢
                  rw [nI_toInt (by omega)] at g3
                  have e : (0 : Int32).toInt = 0 := by decide
                  omega
                obtain ⟨l, hl, rfl⟩ := nI_of g0
                refine ⟨l, ?_, rfl⟩
                rw [z_addl, z_le (by omega) (by omega)] at c3
                exact c3
              obtain ⟨l, hl, rfl⟩ := e4
              by_cases full : q < 8
              · rw [if_pos (show (if q < 8 then (0 : Int32) else 1) = 0 by rw [if_pos full]), if_neg (show ¬ nI q = (8 : Int32) by rw [show (8 : Int32) = nI 8 from rfl, z_eq (by omega) (by omega)]; omega), x5_add rn ri rb rp rt rf rl _ _ _ _ _ full, z_bind, if_pos (show jin 4 2048 = true by decide), x10_requestOf, z_bind]
                have j : ∀ x, x < 2048 → jin (nI x) 2048 = true := fun x hx => by rw [z_jin (by omega)]; simp; omega
                simp only [z_addl, j (80 + 6 * q) (by omega), j (80 + 6 * q + 1) (by omega), j (80 + 6 * q + 2) (by omega), j (80 + 6 * q + 3) (by omega), j (80 + 6 * q + 4) (by omega), j (80 + 6 * q + 5) (by omega), show jin 3 2048 = true from by decide, show jin 4 2048 = true from by decide, if_true, show (3 : Int32).toNatClampNeg = 3 from rfl, show (4 : Int32).toNatClampNeg = 4 from rfl, z_cl (show 80 + 6 * q < 2147483648 by omega), z_cl (show 80 + 6 * q + 1 < 2147483648 by omega), z_cl (show 80 + 6 * q + 2 < 2147483648 by omega), z_cl (show 80 + 6 * q + 3 < 2147483648 by omega), z_cl (show 80 + 6 * q + 4 < 2147483648 by omega), z_cl (show 80 + 6 * q + 5 < 2147483648 by omega)]
                simp (disch := omega) only [z_updn, z_upds, h3, h4, nI_1]
                refine Or.inr ⟨i, _, _, _, _, _, _, _, _, _, h5, by rw [h5'], by rw [h5'], ?_⟩
                rw [← h5']
                obtain ⟨n', P', W', L', B', D', q', b', d', H', RR', RB', RS'⟩ := Rm
                refine ⟨n', P', W', L', B', D', q + 1, b', d', ?_, zRR_add R0 full h5' (by omega) (by omega) hw9 hp60 (by omega), ?_, ?_⟩
                · exact zRH_kept H' (fun z hz => by simp (disch := omega) only [z_updn])
                · exact zRB_kept RB' (fun z hz => by simp (disch := omega) only [z_updn])
                · exact zRS_kept RS' (fun z hz => by simp (disch := omega) only [z_updn])
              · have e : q = 8 := by omega
                subst e
                rw [if_neg (show ¬ (if 8 < 8 then (0 : Int32) else 1) = 0 by decide), if_pos (show nI 8 = (8 : Int32) from rfl)]
                exact Or.inl ⟨-3, 2, Or.inr ⟨rfl, rfl⟩, rfl, rfl⟩
            · rw [if_neg c3, if_neg c3]
              exact Or.inl ⟨-1, 1, Or.inl ⟨rfl, rfl⟩, rfl, rfl⟩
      · rw [z_outL (n := 12) (y := 12) rfl hout, z_inF (y := 0) (z := 12) (nI 0) (nI 12) rfl rfl hin, z_bind, if_pos rfl]
        exact Or.inl ⟨-1, 1, Or.inl ⟨rfl, rfl⟩, rfl, rfl⟩
    · rw [z_outL (n := 60) (y := 60) rfl hout, z_inF (y := 0) (z := 60) (nI 0) (nI 60) rfl rfl hin, z_bind, if_pos rfl]
      exact Or.inl ⟨-1, 1, Or.inl ⟨rfl, rfl⟩, rfl, rfl⟩
  · rw [z_outG (n := 9) (y := 9) rfl hout, z_inF (y := 0) (z := 9) (nI 0) (nI 9) rfl rfl hin, z_bind, if_pos rfl]
    exact Or.inl ⟨-1, 1, Or.inl ⟨rfl, rfl⟩, rfl, rfl⟩
theorem op_grantBest {T : Nat} {hc : Int32} {hp hw hs hb hd ht : Nat → Int32} {rc rn : Int32} {ri rb rp rt rf rl : Nat → Int32} {bc : Int32} {bh bb bf bl : Nat → Int32} {sd sc sbc slc sfc sbr sle : Int32} {m : Nat → Int32}
    (R : zRel T hc hp hw hs hb hd ht rc rn ri rb rp rt rf rl bc bh bb bf bl sd sc sbc slc sfc sbr sle m) (th a0 : Int32) :
    (∃ c th', ((c = -4 ∧ th' = 1) ∨ (c = -3 ∧ th' = 2) ∨ (c = -5 ∧ th' = 3)) ∧ f_X8_grantBest hc hp hw hs hd rc ri rb rp rt rf rl bc bh bb bf bl sd sc sbc a0 = some (c, rc, ri, rb, rp, rt, rf, rl, bc, bh, bb, bf, bl, sc, sbc) ∧ f_X10_grantIt m th a0 = some (-1, m, th')) ∨
    (∃ j rc' ri' rb' rp' rt' rf' rl' bc' bh' bb' bf' bl' sc' sbc' m', j < 1000000 ∧ f_X8_grantBest hc hp hw hs hd rc ri rb rp rt rf rl bc bh bb bf bl sd sc sbc a0 = some (nI j, rc', ri', rb', rp', rt', rf', rl', bc', bh', bb', bf', bl', sc', sbc') ∧ f_X10_grantIt m th a0 = some (nI j, m', th) ∧ zRel T hc hp hw hs hb hd ht rc' rn ri' rb' rp' rt' rf' rl' bc' bh' bb' bf' bl' sd sc' sbc' slc sfc sbr sle m') := by
  obtain ⟨n, P, W, L, B, D, q, b, d, H, RR, RB, RS⟩ := R
  have R0 := RR
  obtain ⟨h1, h2, h3, h4, ⟨i, h5, h5'⟩, h6, h7⟩ := RR
  have S0 := RS
  obtain ⟨s1, s2, s3, s4, s5, s6, s7⟩ := RS
  unfold f_X8_grantBest f_X10_grantIt
  rw [h2, x5_positionOf ri a0 h1, x10_find a0 h1 h3 (fun k hk => (h6 k hk).1), z_bind, z_bind]
  by_cases c : pzf (fun k => decide (ri k = a0)) q < q
  · have e : zO q (pzf (fun k => decide (ri k = a0)) q) = nI (pzf (fun k => decide (ri k = a0)) q) := by unfold zO; rw [if_pos c]
    have e1 : ¬ nI (pzf (fun k => decide (ri k = a0)) q) = -1 := by rw [z_m1 (by omega)]; exact id
    rw [e, if_neg e1, if_neg e1]
    generalize pzf (fun k => decide (ri k = a0)) q = k at c
    obtain ⟨w, p, dd, w9, p60, dT, ew, ep, ed⟩ := h7 k c
    rw [x5_firstDayAt rf h1 c, z_bind, x10_requestOf, z_bind, z_addl, if_pos (show jin (nI (80 + 6 * k + 4)) 2048 = true by rw [z_jin (by omega)]; simp; omega), if_pos (show jin 1 2048 = true by decide), show (1 : Int32).toNatClampNeg = 1 from rfl, s3, z_cl (by omega), (h6 k c).2.2.2.2.1, s2]
    by_cases c2 : nI d < rf k
    · rw [if_pos c2, if_pos c2]
      have bb' := x8_bestFor H R0 RB c ep p60
      rw [h2] at bb'
      rw [bb', x10_best H R0 RB c ep p60, z_bind, z_bind]
      cases eb : zBst (fun h => zMay hp hw hs hd rp rt rf rl b bh bf bl k h) (zKey P W p) n with
      | none =>
        rw [if_pos (show zOp none = -1 from rfl), if_pos (show zOp none = -1 from rfl)]
        exact Or.inl ⟨-5, 3, Or.inr (Or.inr ⟨rfl, rfl⟩), rfl, rfl⟩
      | some h =>
        have hl := zBst_lt _ _ _ _ eb
        have n12 := H.1
        have e2 : ¬ zOp (some h) = -1 := by show ¬ nI h = -1; rw [z_m1 (by omega)]; exact id
        rw [if_neg e2, if_neg e2]
        obtain ⟨ri', rb', rp', rt', rf', rl', b', bc', bh', bb', bf', bl', sc', sbc', m', f1, f2, f3, f4, f5, f6⟩ := op_book H R0 RB S0 c hl.1
        rw [h2] at f1
        rw [show zOp (some h) = nI h from rfl, f1, f2, z_bind, z_bind]
        exact Or.inr ⟨h, _, _, _, _, _, _, _, _, _, _, _, _, _, _, _, by omega, rfl, rfl, n, P, W, L, B, D, q - 1, b', d, f3, f4, f5, by rw [s2] at f6; exact f6⟩
    · rw [if_neg c2, if_neg c2]
      exact Or.inl ⟨-3, 2, Or.inr (Or.inl ⟨rfl, rfl⟩), rfl, rfl⟩
  · have e : zO q (pzf (fun k => decide (ri k = a0)) q) = -1 := by unfold zO; rw [if_neg c]
    rw [e, if_pos rfl, if_pos rfl]
    exact Or.inl ⟨-4, 1, Or.inl ⟨rfl, rfl⟩, rfl, rfl⟩

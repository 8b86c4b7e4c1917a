/-! PURE: more changes -/
theorem zRel_mono {T T' : Nat} {hc : Int32} {hp hw hs hb hd ht : Nat → Int32} {rc rn : Int32} {ri rb rp rt rf rl : Nat → Int32} {bc : Int32} {bh bb bf bl : Nat → Int32} {sd sc sbc slc sfc sbr sle : Int32} {m : Nat → Int32}
    (R : zRel T hc hp hw hs hb hd ht rc rn ri rb rp rt rf rl bc bh bb bf bl sd sc sbc slc sfc sbr sle m) (hT : T ≤ T') : zRel T' hc hp hw hs hb hd ht rc rn ri rb rp rt rf rl bc bh bb bf bl sd sc sbc slc sfc sbr sle m := by
  obtain ⟨n, P, W, L, B, D, q, b, d, H, RR, RB, RS⟩ := R
  refine ⟨n, P, W, L, B, D, q, b, d, ?_, ?_, ?_, ?_⟩
  · obtain ⟨h1, h2, h3, h4, h5, h6, h7, h8, h9, h10⟩ := H
    exact ⟨h1, h2, h3, h4, h5, h6, fun k hk hl => by
      have := h7 k hk hl
      exact ⟨this.1, by omega, this.2.2⟩, h8, h9, h10⟩
  · obtain ⟨h1, h2, h3, h4, ⟨i, h5, h5'⟩, h6, h7⟩ := RR
    refine ⟨h1, h2, h3, h4, ⟨i, by omega, h5'⟩, h6, fun k hk => ?_⟩
    obtain ⟨w, p, d, a1, a2, a3, a4⟩ := h7 k hk
    exact ⟨w, p, d, a1, a2, by omega, a4⟩
  · obtain ⟨h1, h2, h3, h6, h7⟩ := RB
    refine ⟨h1, h2, h3, h6, fun k hk => ?_⟩
    obtain ⟨w, p, d, a1, a2, a3, a4⟩ := h7 k hk
    exact ⟨w, p, d, a1, a2, by omega, a4⟩
  · obtain ⟨h1, h2⟩ := RS
    exact ⟨by omega, h2⟩
theorem op_drop {T : Nat} {hc : Int32} {hp hw hs hb hd ht : Nat → Int32} {rc rn : Int32} {ri rb rp rt rf rl : Nat → Int32} {bc : Int32} {bh bb bf bl : Nat → Int32} {sd sc sbc slc sfc sbr sle : Int32} {m : Nat → Int32}
    (R : zRel T hc hp hw hs hb hd ht rc rn ri rb rp rt rf rl bc bh bb bf bl sd sc sbc slc sfc sbr sle m) (th a0 : Int32) :
    (f_X8_drop rc ri rb rp rt rf rl a0 = some (-4, rc, ri, rb, rp, rt, rf, rl) ∧ f_X10_dropIt m th a0 = some (-1, m, 1)) ∨
    (∃ j rc' ri' rb' rp' rt' rf' rl' m', j < 1000000 ∧ f_X8_drop rc ri rb rp rt rf rl a0 = some (nI j, rc', ri', rb', rp', rt', rf', rl') ∧ f_X10_dropIt m th a0 = some (nI j, m', th) ∧ zRel T hc hp hw hs hb hd ht rc' rn ri' rb' rp' rt' rf' rl' bc bh bb bf bl sd sc sbc slc sfc sbr sle m') := by
  obtain ⟨n, P, W, L, B, D, q, b, d, H, RR, RB, RS⟩ := R
  have R0 := RR
  obtain ⟨h1, h2, h3, h4, h5, h6, h7⟩ := RR
  subst h2
  unfold f_X8_drop f_X10_dropIt
  rw [x5_positionOf ri a0 h1, x10_find a0 h1 h3 (fun k hk => (h6 k hk).1), z_bind, z_bind]
  by_cases c : pzf (fun k => decide (ri k = a0)) q < q
  · have e : zO q (pzf (fun k => decide (ri k = a0)) q) = nI (pzf (fun k => decide (ri k = a0)) q) := by unfold zO; rw [if_pos c]
    have e1 : ¬ nI (pzf (fun k => decide (ri k = a0)) q) = -1 := by rw [z_m1 (by omega)]; exact id
    rw [e, if_neg e1, if_neg e1, x5_remove ri rb rp rt rf rl h1 c, z_bind, x10_dropsRequest h1 h3 c, z_bind]
    unfold f_X5_size
    rw [z_bind, if_pos (by decide), show (4 : Int32).toNatClampNeg = 4 from rfl, zDropR_q]
    exact Or.inr ⟨q - 1, _, _, _, _, _, _, _, _, by omega, rfl, rfl, n, P, W, L, B, D, q - 1, b, d, zRH_kept H (fun z hz => zDropR_o m (by omega) (by omega)), zRR_drop R0 c, zRB_kept RB (fun z hz => zDropR_o m (by omega) (by omega)), zRS_kept RS (fun z hz => zDropR_o m (by omega) (by omega))⟩
  · have e : zO q (pzf (fun k => decide (ri k = a0)) q) = -1 := by unfold zO; rw [if_neg c]
    rw [e, if_pos rfl, if_pos rfl]
    exact Or.inl ⟨rfl, rfl⟩
theorem op_renew {T : Nat} {hc : Int32} {hp hw hs hb hd ht : Nat → Int32} {rc rn : Int32} {ri rb rp rt rf rl : Nat → Int32} {bc : Int32} {bh bb bf bl : Nat → Int32} {sd sc sbc slc sfc sbr sle : Int32} {m : Nat → Int32}
    (R : zRel T hc hp hw hs hb hd ht rc rn ri rb rp rt rf rl bc bh bb bf bl sd sc sbc slc sfc sbr sle m) (th a0 : Int32) :
    (∃ c th', ((c = -2 ∧ th' = 1) ∨ (c = -3 ∧ th' = 2) ∨ (c = -5 ∧ th' = 3)) ∧ f_X8_renew hc hw hs sc sfc a0 = some (c, hw, sc, sfc) ∧ f_X10_faceIt m th a0 = some (-1, m, th')) ∨
    (∃ j hw' sc' sfc' m', j < 1000000 ∧ f_X8_renew hc hw hs sc sfc a0 = some (nI j, hw', sc', sfc') ∧ f_X10_faceIt m th a0 = some (nI j, m', th) ∧ zRel T hc hp hw' hs hb hd ht rc rn ri rb rp rt rf rl bc bh bb bf bl sd sc' sbc slc sfc' sbr sle m') := by
  obtain ⟨n, P, W, L, B, D, q, b, d, H, RR, RB, RS⟩ := R
  have H0 := H
  obtain ⟨h1, h2, h3, h4, h5, h6, h7, h8, h9, h10⟩ := H
  obtain ⟨s1, s2, s3, s4, s5, s6, s7⟩ := RS
  subst h2
  unfold f_X8_renew f_X10_faceIt
  rcases z_arg a0 (n := n) (by omega) with ⟨k, hk, rfl⟩ | hout
  · rw [x2_hasT h1 hk, x10_isHammerT h1 h3 hk, z_bind, z_bind, if_neg z_n10, if_neg z_n10, x2_isAway hs h1 hk (h5 k hk).2.2, z_bind, x10_hammerOf, z_bind]
    simp only [z_addl]
    rw [if_pos (show jin (nI (8 + 6 * k + 2)) 2048 = true by rw [z_jin (by omega)]; simp; omega), z_cl (show 8 + 6 * k + 2 < 2147483648 by omega), (h6 k hk).2.2.1]
    by_cases aw : 18 ≤ L k
    · rw [if_neg (show ¬ (if 18 ≤ L k then (1 : Int32) else 0) = 0 by rw [if_pos aw]; decide), if_pos (show zR (L k) = -1 by rw [zR_m1]; exact aw)]
      exact Or.inl ⟨-3, 2, Or.inr (Or.inl ⟨rfl, rfl⟩), rfl, rfl⟩
    · rw [if_pos (show (if 18 ≤ L k then (1 : Int32) else 0) = 0 by rw [if_neg aw]), if_neg (show ¬ zR (L k) = -1 by rw [zR_m1]; exact aw), x2_wearOf hw h1 hk, z_bind, (h5 k hk).2.1]
      have j : ∀ x, x < 2048 → jin (nI x) 2048 = true := fun x hx => by rw [z_jin (by omega)]; simp; omega
      simp only [j (8 + 6 * k + 1) (by omega), show jin 2 2048 = true from by decide, if_true, z_cl (show 8 + 6 * k + 1 < 2147483648 by omega), show (2 : Int32).toNatClampNeg = 2 from rfl, (h6 k hk).2.1, s4]
      have w100 := h4 k hk
      have ce : (nI (W k) + 4) / 5 = nI ((W k + 4) / 5) := by rw [z_addl]; exact pk_div (d := 5) (by omega) (by omega) (by omega)
      simp only [z_addl] at ce
      have ce' : nI (W k + 4) / 5 = nI ((W k + 4) / 5) := ce
      simp only [z_addl, ce']
      by_cases cc : nI ((W k + 4) / 5) ≤ sc
      · rw [if_pos cc, if_pos cc, x2_setWear hw 0 h1 hk, z_bind]
        refine Or.inr ⟨(W k + 4) / 5, _, _, _, _, by omega, rfl, rfl, ?_⟩
        have H1 : zRH n P W L B D T (nI n) hp hw hs hb hd ht (upd m 2 (sc - nI ((W k + 4) / 5))) := zRH_kept H0 (fun z hz => by rw [z_updn _ (by omega)])
        refine ⟨n, P, _, L, B, D, q, b, d, zRH_wear H1 hk (w := 0) (by omega), ?_, ?_, ?_⟩
        · exact zRR_kept RR (fun z hz => by rw [z_updn _ (by omega), z_updn _ (by omega)])
        · exact zRB_kept RB (fun z hz => by rw [z_updn _ (by omega), z_updn _ (by omega)])
        · refine ⟨s1, s2, ?_, ?_, ?_, ?_, ?_⟩
          · rw [z_updn _ (by omega), z_updn _ (by omega)]; exact s3
          · rw [z_updn _ (by omega), z_upds]
          · rw [s5]; generalize nI ((W k + 4) / 5) = z; grind
          · rw [z_updn _ (by omega), z_updn _ (by omega)]; exact s6
          · rw [z_updn _ (by omega), z_updn _ (by omega)]; exact s7
      · rw [if_neg cc, if_neg cc]
        exact Or.inl ⟨-5, 3, Or.inr (Or.inr ⟨rfl, rfl⟩), rfl, rfl⟩
  · rw [x2_hasF hout, x10_isHammerF h1 h3 hout, z_bind, z_bind, if_pos rfl, if_pos rfl]
    exact Or.inl ⟨-2, 1, Or.inl ⟨rfl, rfl⟩, rfl, rfl⟩
theorem zRB_add {b n T h w d : Nat} {bc x f : Int32} {bh bb bf bl m : Nat → Int32} (G : zRB b n T bc bh bb bf bl m) (hb : b < 480) (hh : h < n) (hw : w ≤ 9) (hd : d ≤ T + 40) : zRB (b + 1) n T (nI (b + 1)) (upd bh b (nI h)) (upd bb b (nI w)) (upd bf b f) (upd bl b (nI d)) (upd (upd (upd (upd (upd (upd m (128 + 4 * b) (nI h)) (128 + 4 * b + 1) (nI w)) (128 + 4 * b + 2) f) (128 + 4 * b + 3) (nI d)) 5 (nI (b + 1))) 2 x) := by
  obtain ⟨h1, h2, h3, h6, h7⟩ := G
  refine ⟨by omega, rfl, by rw [z_updn _ (by omega), z_upds], fun k hk => ?_, fun k hk => ?_⟩
  · by_cases c : k = b
    · subst c
      refine ⟨?_, ?_, ?_, ?_⟩
      · rw [z_updn _ (by omega), z_updn _ (by omega), z_updn _ (by omega), z_updn _ (by omega), z_updn _ (by omega), z_upds, z_upds]
      · rw [z_updn _ (by omega), z_updn _ (by omega), z_updn _ (by omega), z_updn _ (by omega), z_upds, z_upds]
      · rw [z_updn _ (by omega), z_updn _ (by omega), z_updn _ (by omega), z_upds, z_upds]
      · rw [z_updn _ (by omega), z_updn _ (by omega), z_upds, z_upds]
    · have := h6 k (by omega)
      rw [z_updn (f := bh) _ c, z_updn (f := bb) _ c, z_updn (f := bf) _ c, z_updn (f := bl) _ c]
      refine ⟨?_, ?_, ?_, ?_⟩
      · rw [z_updn _ (by omega), z_updn _ (by omega), z_updn _ (by omega), z_updn _ (by omega), z_updn _ (by omega), z_updn _ (by omega)]; exact this.1
      · rw [z_updn _ (by omega), z_updn _ (by omega), z_updn _ (by omega), z_updn _ (by omega), z_updn _ (by omega), z_updn _ (by omega)]; exact this.2.1
      · rw [z_updn _ (by omega), z_updn _ (by omega), z_updn _ (by omega), z_updn _ (by omega), z_updn _ (by omega), z_updn _ (by omega)]; exact this.2.2.1
      · rw [z_updn _ (by omega), z_updn _ (by omega), z_updn _ (by omega), z_updn _ (by omega), z_updn _ (by omega), z_updn _ (by omega)]; exact this.2.2.2
  · by_cases c : k = b
    · subst c
      exact ⟨h, w, d, hh, hw, hd, z_upds _ _ _, z_upds _ _ _, z_upds _ _ _⟩
    · rw [z_updn _ c, z_updn _ c, z_updn _ c]
      exact h7 k (by omega)
/-- a booking is made of a request and a hammer -/
theorem op_book {T k h n : Nat} {P W L B D : Nat → Nat} {q b d : Nat} {hc : Int32} {hp hw hs hb hd ht : Nat → Int32} {rc rn : Int32} {ri rb rp rt rf rl : Nat → Int32} {bc : Int32} {bh bb bf bl : Nat → Int32} {sd sc sbc slc sfc sbr sle : Int32} {m : Nat → Int32}
    (H : zRH n P W L B D T hc hp hw hs hb hd ht m) (RR : zRR q T rc rn ri rb rp rt rf rl m) (RB : zRB b n T bc bh bb bf bl m) (RS : zRS d T sd sc sbc slc sfc sbr sle m) (hk : k < q) (hh : h < n) :
    ∃ ri' rb' rp' rt' rf' rl' b' bc' bh' bb' bf' bl' sc' sbc' m', f_X8_book rc ri rb rp rt rf rl bc bh bb bf bl sc sbc (nI k) (nI h) = some (nI (q - 1), ri', rb', rp', rt', rf', rl', bc', bh', bb', bf', bl', sc', sbc') ∧ f_X10_books m (nI k) (nI h) = some m' ∧
      zRH n P W L B D T hc hp hw hs hb hd ht m' ∧ zRR (q - 1) T (nI (q - 1)) rn ri' rb' rp' rt' rf' rl' m' ∧ zRB b' n T bc' bh' bb' bf' bl' m' ∧ zRS d T sd sc' sbc' slc sfc sbr sle m' := by
  have R0 := RR
  have B0 := RB
  obtain ⟨h1, h2, h3, h4, h5, h6, h7⟩ := RR
  obtain ⟨b1, b2, b3, b6, b7⟩ := RB
  obtain ⟨s1, s2, s3, s4, s5, s6, s7⟩ := RS
  subst h2 b2
  have r6 := h6 k hk
  obtain ⟨w, p, dd, w9, p60, dT, ew, ep, ed⟩ := h7 k hk
  unfold f_X8_book f_X10_books
  rw [x5_firstDayAt rf h1 hk, z_bind, x5_lastDayAt rl h1 hk, z_bind, x5_borrowerAt rb h1 hk, z_bind, x10_requestOf, z_bind]
  have j : ∀ x, x < 2048 → jin (nI x) 2048 = true := fun x hx => by rw [z_jin (by omega)]; simp; omega
  simp only [z_addl, j (80 + 6 * k + 1) (by omega), j (80 + 6 * k + 4) (by omega), j (80 + 6 * k + 5) (by omega), show jin 5 2048 = true from by decide, show jin 2 2048 = true from by decide, if_true, show (5 : Int32).toNatClampNeg = 5 from rfl, show (2 : Int32).toNatClampNeg = 2 from rfl, b3, z_cl (show 80 + 6 * k + 1 < 2147483648 by omega), z_cl (show 80 + 6 * k + 4 < 2147483648 by omega), z_cl (show 80 + 6 * k + 5 < 2147483648 by omega)]
  by_cases c : b < 480
  · rw [x0_add bh bb bf bl _ _ _ _ c, z_bind, if_neg (show ¬ (480 : Int32) ≤ nI b from nI_ge (b := 480) c (by omega)), x10_bookingOf, z_bind, x5_remove ri rb rp rt rf rl h1 hk, z_bind]
    simp only [z_addl, j (128 + 4 * b) (by omega), j (128 + 4 * b + 1) (by omega), j (128 + 4 * b + 2) (by omega), j (128 + 4 * b + 3) (by omega), if_true, z_cl (show 128 + 4 * b < 2147483648 by omega), z_cl (show 128 + 4 * b + 1 < 2147483648 by omega), z_cl (show 128 + 4 * b + 2 < 2147483648 by omega), z_cl (show 128 + 4 * b + 3 < 2147483648 by omega)]
    simp (disch := omega) only [z_updn, z_upds, b3, s4, r6.2.1, r6.2.2.2.2.1, r6.2.2.2.2.2, nI_1]
    rw [ew, ed]
    generalize hM : upd (upd (upd (upd (upd (upd m (128 + 4 * b) (nI h)) (128 + 4 * b + 1) (nI w)) (128 + 4 * b + 2) (rf k)) (128 + 4 * b + 3) (nI dd)) 5 (nI (b + 1))) 2 (sc + (nI dd - rf k + 1)) = M
    have keep : ∀ x, x ≠ 2 → x ≠ 5 → x < 128 → M x = m x := by
      intro x e1 e2 e3
      rw [← hM, z_updn _ e1, z_updn _ e2, z_updn _ (by omega), z_updn _ (by omega), z_updn _ (by omega), z_updn _ (by omega)]
    have B1 : zRB (b + 1) n T (nI (b + 1)) (upd bh b (nI h)) (upd bb b (nI w)) (upd bf b (rf k)) (upd bl b (nI dd)) M := by rw [← hM]; exact zRB_add B0 c hh w9 dT
    have R1 : zRR q T (nI q) rn ri rb rp rt rf rl M := zRR_kept R0 (fun z hz => keep z (by omega) (by omega) (by omega))
    have M2 : M 2 = sc + (nI dd - rf k + 1) := by rw [← hM, z_upds]
    rw [x10_dropsRequest h1 (by rw [keep 4 (by omega) (by omega) (by omega)]; exact h3) hk, z_bind]
    refine ⟨_, _, _, _, _, _, b + 1, _, _, _, _, _, _, _, _, rfl, rfl, ?_, zRR_drop R1 hk, ?_, ?_⟩
    · exact zRH_kept H (fun z hz => by rw [zDropR_o M (by omega) (by omega), keep z (by omega) (by omega) (by omega)])
    · exact zRB_kept B1 (fun z hz => zDropR_o M (by omega) (by omega))
    · refine ⟨s1, s2, ?_, ?_, ?_, ?_, ?_⟩
      · rw [zDropR_o M (by omega) (by omega), keep 1 (by omega) (by omega) (by omega)]; exact s3
      · rw [zDropR_o M (by omega) (by omega)]; exact M2
      · rw [s5]; generalize nI dd - rf k + 1 = z; grind
      · rw [zDropR_o M (by omega) (by omega), keep 6 (by omega) (by omega) (by omega)]; exact s6
      · rw [zDropR_o M (by omega) (by omega), keep 7 (by omega) (by omega) (by omega)]; exact s7
  · have e : b = 480 := by omega
    subst e
    rw [x0_addF bh bb bf bl, z_bind, if_pos (show (480 : Int32) ≤ nI 480 by decide), x5_remove ri rb rp rt rf rl h1 hk, z_bind]
    simp only [s4, r6.2.2.2.2.1, r6.2.2.2.2.2]
    generalize hM : upd m 2 (sc + (rl k - rf k + 1)) = M
    have keep : ∀ x, x ≠ 2 → M x = m x := by
      intro x e1
      rw [← hM, z_updn _ e1]
    have R1 : zRR q T (nI q) rn ri rb rp rt rf rl M := zRR_kept R0 (fun z hz => keep z (by omega))
    have M2 : M 2 = sc + (rl k - rf k + 1) := by rw [← hM, z_upds]
    rw [x10_dropsRequest h1 (by rw [keep 4 (by omega)]; exact h3) hk, z_bind]
    refine ⟨_, _, _, _, _, _, 480, _, _, _, _, _, _, _, _, rfl, rfl, ?_, zRR_drop R1 hk, ?_, ?_⟩
    · exact zRH_kept H (fun z hz => by rw [zDropR_o M (by omega) (by omega), keep z (by omega)])
    · exact zRB_kept B0 (fun z hz => by rw [zDropR_o M (by omega) (by omega), keep z (by omega)])
    · refine ⟨s1, s2, ?_, ?_, ?_, ?_, ?_⟩
      · rw [zDropR_o M (by omega) (by omega), keep 1 (by omega)]; exact s3
      · rw [zDropR_o M (by omega) (by omega)]; exact M2
      · rw [s5]; generalize rl k - rf k + 1 = z; grind
      · rw [zDropR_o M (by omega) (by omega), keep 6 (by omega)]; exact s6
      · rw [zDropR_o M (by omega) (by omega), keep 7 (by omega)]; exact s7

/-! PURE: days pass -/
theorem x0_beginningOn {b : Nat} (bf : Nat → Int32) (x : Int32) (hb : b ≤ 480) : f_X0_beginningOn (nI b) bf x = some (zO b (pzf (fun j => decide (bf j = x)) b)) := by
  have key := pzL (F := f_X0_beginningOn_L2 (nI b) bf x) (n := b) (fun j => decide (bf j = x)) (fun k => nI k)
    (fun fu => by rw [f_X0_beginningOn_L2, if_pos (nI_le (Nat.le_refl _) (by omega))])
    (fun fu k hk => by
      rw [f_X0_beginningOn_L2, if_neg (nI_ge hk (by omega)), x0_hasT hb hk, z_bind, if_neg z_n10, if_pos (show jin (nI k) 480 = true by rw [z_jin (by omega)]; simp; omega), z_cl (by omega), nI_1]
      simp only [decide_eq_true_eq])
    jFU (pz_jFU (by omega))
  unfold f_X0_beginningOn
  rw [show f_X0_beginningOn_L2 (nI b) bf x jFU 0 = f_X0_beginningOn_L2 (nI b) bf x jFU (nI 0) from rfl, key]
  unfold zO
  by_cases h : pzf (fun j => decide (bf j = x)) b < b
  · rw [if_pos h, if_pos h]; rfl
  · rw [if_neg h, if_neg h]; rfl
theorem open_core {T n q d : Nat} {P W : Nat → Nat} {hc : Int32} {hp hw : Nat → Int32} {rc rn : Int32} {ri rb rp rt rf rl : Nat → Int32} {sc sbc slc sfc : Int32} :
    ∀ (μ k b c left fu fu2 : Nat) (L B D : Nat → Nat) (hs hb hd ht : Nat → Int32) (bc : Int32) (bh bb bf bl : Nat → Int32) (sbr sle : Int32) (m : Nat → Int32),
    zRH n P W L B D T hc hp hw hs hb hd ht m → zRR q T rc rn ri rb rp rt rf rl m → zRB b n T bc bh bb bf bl m → zRS d T (nI d) sc sbc slc sfc sbr sle m → k ≤ b → b - k ≤ μ → (∀ j, j < k → bf j ≠ nI d) → b - k ≤ left → left < 1000000 → μ < fu → μ < fu2 →
    ∃ (L' B' D' : Nat → Nat) (b' c' : Nat) (hs' hb' hd' ht' : Nat → Int32) (bc' : Int32) (bh' bb' bf' bl' : Nat → Int32) (sbr' sle' : Int32) (m' : Nat → Int32),
      f_X10_passesDay_L14 fu (nI k) (nI c) m = some (nI b', nI c', m') ∧
      (f_X8_openBookings_L8 hc (nI d) fu2 (nI left) hs hb hd ht bc bh bb bf bl sbr sle = some (.inl (hs', hb', hd', ht', bc', bh', bb', bf', bl', sbr', sle')) ∨ ∃ x, f_X8_openBookings_L8 hc (nI d) fu2 (nI left) hs hb hd ht bc bh bb bf bl sbr sle = some (.inr (x, hs', hb', hd', ht', bc', bh', bb', bf', bl', sbr', sle'))) ∧
      zRH n P W L' B' D' T hc hp hw hs' hb' hd' ht' m' ∧ zRR q T rc rn ri rb rp rt rf rl m' ∧ zRB b' n T bc' bh' bb' bf' bl' m' ∧ zRS d T (nI d) sc sbc slc sfc sbr' sle' m' ∧ c' + b' ≤ c + b ∧ c ≤ c' ∧ nI c' - nI c = sle' - sle := by
  intro μ
  induction μ with
  | zero =>
    intro k b c left fu fu2 L B D hs hb hd ht bc bh bb bf bl sbr sle m H RR RB RS hkb hμ hno hleft hl6 hfu hfu2
    obtain rfl : k = b := by omega
    obtain ⟨fu, rfl⟩ : ∃ g, fu = g + 1 := ⟨fu - 1, by omega⟩
    obtain ⟨fu2, rfl⟩ : ∃ g, fu2 = g + 1 := ⟨fu2 - 1, by omega⟩
    have RB0 := RB
    obtain ⟨b1, b2, b3, b6, b7⟩ := RB
    refine ⟨L, B, D, k, c, hs, hb, hd, ht, bc, bh, bb, bf, bl, sbr, sle, m, ?_, ?_, H, RR, RB0, RS, by omega, by omega, by grind⟩
    · rw [f_X10_passesDay_L14, if_pos (by decide), show (5 : Int32).toNatClampNeg = 5 from rfl, b3, if_pos (nI_le (Nat.le_refl _) (by omega))]
    · rw [f_X8_openBookings_L8]
      by_cases c0 : nI left ≤ 0
      · rw [if_pos c0]; exact Or.inr ⟨_, rfl⟩
      · rw [if_neg c0, b2, x0_beginningOn bf (nI d) b1, z_bind]
        have e : pzf (fun j => decide (bf j = nI d)) k = k := pzf_none.mpr (fun j hj => decide_eq_false (hno j hj))
        rw [if_pos (show zO k (pzf (fun j => decide (bf j = nI d)) k) = -1 by unfold zO; rw [e, if_neg (by omega)])]
        exact Or.inl rfl
  | succ μ ih =>
    intro k b c left fu fu2 L B D hs hb hd ht bc bh bb bf bl sbr sle m H RR RB RS hkb hμ hno hleft hl6 hfu hfu2
    by_cases hk0 : b - k ≤ μ
    · exact ih k b c left fu fu2 L B D hs hb hd ht bc bh bb bf bl sbr sle m H RR RB RS hkb hk0 hno hleft hl6 (by omega) (by omega)
    have hk : k < b := by omega
    obtain ⟨fu, rfl⟩ : ∃ g, fu = g + 1 := ⟨fu - 1, by omega⟩
    obtain ⟨fu2, rfl⟩ : ∃ g, fu2 = g + 1 := ⟨fu2 - 1, by omega⟩
    have RB0 := RB
    have H0 := H
    have RS0 := RS
    obtain ⟨b1, b2, b3, b6, b7⟩ := RB
    obtain ⟨s1, s2, s3, s4, s5, s6, s7⟩ := RS
    have r6 := b6 k hk
    rw [f_X10_passesDay_L14, if_pos (by decide), show (5 : Int32).toNatClampNeg = 5 from rfl, b3, if_neg (nI_ge hk (by omega)), x10_bookingOf, z_bind]
    simp only [z_addl]
    rw [if_pos (show jin (nI (128 + 4 * k + 2)) 2048 = true by rw [z_jin (by omega)]; simp; omega), if_pos (show jin 1 2048 = true by decide), show (1 : Int32).toNatClampNeg = 1 from rfl, s3, z_cl (show 128 + 4 * k + 2 < 2147483648 by omega), r6.2.2.1]
    by_cases cd : bf k = nI d
    · obtain ⟨h, w, dd, hn, w9, dT, eh, ew, ed⟩ := b7 k hk
      obtain ⟨h1, h2, h3, h4, h5, h6, h7, h8, h9, h10⟩ := H
      have e : pzf (fun j => decide (bf j = nI d)) b = k := pzf_eq hk (decide_eq_true cd) (fun j hj => decide_eq_false (hno j hj))
      have j : ∀ x, x < 2048 → jin (nI x) 2048 = true := fun x hx => by rw [z_jin (by omega)]; simp; omega
      rw [if_pos cd, if_pos (j (128 + 4 * k) (by omega)), z_cl (show 128 + 4 * k < 2147483648 by omega), r6.1, eh, x10_hammerOf, z_bind]
      simp only [z_addl, j (8 + 6 * h + 2) (by omega), j (8 + 6 * h + 3) (by omega), j (8 + 6 * h + 4) (by omega), j (8 + 6 * h + 5) (by omega), j (128 + 4 * k + 1) (by omega), j (128 + 4 * k + 3) (by omega), show jin 6 2048 = true from by decide, show jin 7 2048 = true from by decide, if_true, show (6 : Int32).toNatClampNeg = 6 from rfl, show (7 : Int32).toNatClampNeg = 7 from rfl, z_cl (show 8 + 6 * h + 2 < 2147483648 by omega), z_cl (show 8 + 6 * h + 3 < 2147483648 by omega), z_cl (show 8 + 6 * h + 4 < 2147483648 by omega), z_cl (show 8 + 6 * h + 5 < 2147483648 by omega), z_cl (show 128 + 4 * k + 1 < 2147483648 by omega), z_cl (show 128 + 4 * k + 3 < 2147483648 by omega)]
      have cls : ∀ X, f_X8_openBookings_L8 hc (nI d) (fu2 + 1) (nI left) hs hb hd ht bc bh bb bf bl sbr sle = X ↔ (Option.bind (f_X2_isAway (nI n) hs (nI h)) (fun u7 =>
              if u7 = 0 then
                Option.bind (f_X0_borrowerOf (nI b) bb (nI k)) (fun u9 =>
                  Option.bind (f_X0_lastDayOf (nI b) bl (nI k)) (fun u11 =>
                    Option.bind (f_X2_lend (nI n) hs hb hd ht (nI h) u9 u11) (fun u13 =>
                      Option.bind (f_X0_remove (nI b) bh bb bf bl (nI k)) (fun u15 =>
                        f_X8_openBookings_L8 hc (nI d) fu2 (nI left + (-1)) u13.1 u13.2.1 u13.2.2.1 u13.2.2.2 u15.1 u15.2.1 u15.2.2.1 u15.2.2.2.1 u15.2.2.2.2 sbr (sle + 1)))))
              else
                Option.bind (f_X0_remove (nI b) bh bb bf bl (nI k)) (fun u17 =>
                  f_X8_openBookings_L8 hc (nI d) fu2 (nI left + (-1)) hs hb hd ht u17.1 u17.2.1 u17.2.2.1 u17.2.2.2.1 u17.2.2.2.2 (sbr + 1) sle)) = X) := by
        intro X
        rw [f_X8_openBookings_L8, if_neg (show ¬ nI left ≤ 0 from nI_nle (by omega) (by omega)), b2, x0_beginningOn bf (nI d) b1, z_bind, e]
        rw [show zO b k = nI k by unfold zO; rw [if_pos hk], if_neg (show ¬ nI k = -1 by rw [z_m1 (by omega)]; exact id), x0_hammerOf bh b1 hk, z_bind, eh, h2]
      simp only [cls]
      rw [x2_isAway hs h1 hn (h5 h hn).2.2, z_bind]
      have lft : nI left + (-1) = nI (left - 1) := by
        obtain ⟨l, rfl⟩ : ∃ l, left = l + 1 := ⟨left - 1, by omega⟩
        rw [pk_m1, Nat.add_sub_cancel]
      by_cases aw : 18 ≤ L h
      · rw [if_neg (show ¬ (if 18 ≤ L h then (1 : Int32) else 0) = 0 by rw [if_pos aw]; decide), x0_remove bh bb bf bl b1 hk, z_bind, lft]
        rw [if_pos (show m (8 + 6 * h + 2) = -1 by rw [(h6 h hn).2.2.1, zR_m1]; exact aw), x10_dropsBooking (b := b) b1 (by rw [z_updn _ (by omega)]; exact b3) hk, z_bind, s6]
        have B1 : zRB b n T bc bh bb bf bl (upd m 6 (sbr + 1)) := zRB_kept RB0 (fun z hz => z_updn _ (by omega))
        have H1 : zRH n P W L B D T hc hp hw hs hb hd ht (zDropB b k (upd m 6 (sbr + 1))) := zRH_kept H0 (fun z hz => by rw [zDropB_o _ (by omega) (by omega), z_updn _ (by omega)])
        have R1 : zRR q T rc rn ri rb rp rt rf rl (zDropB b k (upd m 6 (sbr + 1))) := zRR_kept RR (fun z hz => by rw [zDropB_o _ (by omega) (by omega), z_updn _ (by omega)])
        have S1 : zRS d T (nI d) sc sbc slc sfc (sbr + 1) sle (zDropB b k (upd m 6 (sbr + 1))) := by
          refine ⟨s1, rfl, ?_, ?_, s5, ?_, ?_⟩
          · rw [zDropB_o _ (by omega) (by omega), z_updn _ (by omega)]; exact s3
          · rw [zDropB_o _ (by omega) (by omega), z_updn _ (by omega)]; exact s4
          · rw [zDropB_o _ (by omega) (by omega), z_upds]
          · rw [zDropB_o _ (by omega) (by omega), z_updn _ (by omega)]; exact s7
        obtain ⟨L', B', D', b', c', hs', hb', hd', ht', bc', bh', bb', bf', bl', sbr', sle', m', g1, g2, g3, g4, g5, g6, g7, g8, g9⟩ := ih k (b - 1) c (left - 1) fu fu2 L B D hs hb hd ht _ _ _ _ _ (sbr + 1) sle _ H1 R1 (zRB_drop B1 hk) S1 (by omega) (by omega) (fun j hj => by unfold zSh; rw [if_neg (by omega)]; exact hno j hj) (by omega) (by omega) (by omega) (by omega)
        exact ⟨L', B', D', b', c', hs', hb', hd', ht', bc', bh', bb', bf', bl', sbr', sle', m', g1, g2, g3, g4, g5, g6, by omega, by omega, g9⟩
      · have hsl : hs h = nI (L h) := by rw [(h5 h hn).2.2, zS_lt (by omega)]
        rw [if_pos (show (if 18 ≤ L h then (1 : Int32) else 0) = 0 by rw [if_neg aw]), x0_borrowerOf bb b1 hk, z_bind, x0_lastDayOf bl b1 hk, z_bind, x2_lend hs hb hd ht _ _ h1 hn (show L h < 18 by omega) hsl, z_bind, x0_remove bh bb bf bl b1 hk, z_bind, lft]
        rw [if_neg (show ¬ m (8 + 6 * h + 2) = -1 by rw [(h6 h hn).2.2.1, zR_m1]; exact aw)]
        simp (disch := omega) only [z_updn, z_upds, r6.2.1, r6.2.2.2, s7, nI_1]
        rw [ew, ed]
        have H2 := zRH_lend H0 hn rfl (show L h < 18 by omega) w9 dT
        generalize hM : upd (upd (upd (upd (upd m (8 + 6 * h + 2) (-1)) (8 + 6 * h + 3) (-1)) (8 + 6 * h + 4) (nI w)) (8 + 6 * h + 5) (nI dd)) 7 (sle + 1) = M
        have keep : ∀ x, x ≠ 7 → (x < 8 ∨ 80 ≤ x) → M x = m x := by
          intro x e1 e2
          rw [← hM, z_updn _ e1, z_updn _ (by omega), z_updn _ (by omega), z_updn _ (by omega), z_updn _ (by omega)]
        have M7 : M 7 = sle + 1 := by rw [← hM, z_upds]
        have H3 : zRH n P W (va_up L h 18) (va_up B h w) (va_up D h dd) T hc hp hw (upd hs h (-1)) (upd hb h (nI w)) (upd hd h (nI dd)) (upd ht (L h) (-1)) M := zRH_kept H2 (fun z hz => by rw [← hM, z_updn _ (by omega)])
        have B1 : zRB b n T bc bh bb bf bl M := zRB_kept RB0 (fun z hz => keep z (by omega) (by omega))
        rw [x10_dropsBooking (b := b) b1 (by rw [keep 5 (by omega) (by omega)]; exact b3) hk, z_bind]
        have H1 : zRH n P W (va_up L h 18) (va_up B h w) (va_up D h dd) T hc hp hw (upd hs h (-1)) (upd hb h (nI w)) (upd hd h (nI dd)) (upd ht (L h) (-1)) (zDropB b k M) := zRH_kept H3 (fun z hz => zDropB_o _ (by omega) (by omega))
        have R1 : zRR q T rc rn ri rb rp rt rf rl (zDropB b k M) := zRR_kept RR (fun z hz => by rw [zDropB_o _ (by omega) (by omega), keep z (by omega) (by omega)])
        have S1 : zRS d T (nI d) sc sbc slc sfc sbr (sle + 1) (zDropB b k M) := by
          refine ⟨s1, rfl, ?_, ?_, s5, ?_, ?_⟩
          · rw [zDropB_o _ (by omega) (by omega), keep 1 (by omega) (by omega)]; exact s3
          · rw [zDropB_o _ (by omega) (by omega), keep 2 (by omega) (by omega)]; exact s4
          · rw [zDropB_o _ (by omega) (by omega), keep 6 (by omega) (by omega)]; exact s6
          · rw [zDropB_o _ (by omega) (by omega)]; exact M7
        obtain ⟨L', B', D', b', c', hs', hb', hd', ht', bc', bh', bb', bf', bl', sbr', sle', m', g1, g2, g3, g4, g5, g6, g7, g8, g9⟩ := ih k (b - 1) (c + 1) (left - 1) fu fu2 _ _ _ _ _ _ _ _ _ _ _ _ sbr (sle + 1) _ H1 R1 (zRB_drop B1 hk) S1 (by omega) (by omega) (fun j hj => by unfold zSh; rw [if_neg (by omega)]; exact hno j hj) (by omega) (by omega) (by omega) (by omega)
        refine ⟨L', B', D', b', c', hs', hb', hd', ht', bc', bh', bb', bf', bl', sbr', sle', m', g1, g2, g3, g4, g5, g6, by omega, by omega, ?_⟩
        have e1 : nI (c + 1) = nI c + 1 := nI_succ c
        rw [e1] at g9
        grind
    · rw [if_neg cd]
      exact ih (k + 1) b c left fu (fu2 + 1) L B D hs hb hd ht bc bh bb bf bl sbr sle m H RR RB0 RS0 (by omega) (by omega) (fun j hj => by
        rcases Nat.lt_or_ge j k with z | z
        · exact hno j z
        · obtain rfl : j = k := by omega
          exact cd) (by omega) hl6 (by omega) (by omega)
theorem op_day {T n q d b : Nat} {P W L B D : Nat → Nat} {hc : Int32} {hp hw hs hb hd ht : Nat → Int32} {rc rn : Int32} {ri rb rp rt rf rl : Nat → Int32} {bc : Int32} {bh bb bf bl : Nat → Int32} {sc sbc slc sfc sbr sle : Int32} {m : Nat → Int32}
    (H : zRH n P W L B D T hc hp hw hs hb hd ht m) (RR : zRR q T rc rn ri rb rp rt rf rl m) (RB : zRB b n T bc bh bb bf bl m) (RS : zRS d T (nI d) sc sbc slc sfc sbr sle m) (hd1 : d + 1 ≤ T) :
    ∃ (L' B' D' : Nat → Nat) (b' c' : Nat) (hs' hb' hd' ht' : Nat → Int32) (bc' : Int32) (bh' bb' bf' bl' : Nat → Int32) (sbr' sle' : Int32) (m' : Nat → Int32),
      f_X10_passesDay m = some (nI c', m') ∧
      f_X8_openBookings hc hs hb hd ht bc bh bb bf bl (nI (d + 1)) sbr sle = some (hs', hb', hd', ht', bc', bh', bb', bf', bl', sbr', sle') ∧
      zRH n P W L' B' D' T hc hp hw hs' hb' hd' ht' m' ∧ zRR q T rc rn ri rb rp rt rf rl m' ∧ zRB b' n T bc' bh' bb' bf' bl' m' ∧ zRS (d + 1) T (nI (d + 1)) sc sbc slc sfc sbr' sle' m' ∧ c' + b' ≤ b ∧ nI c' = sle' - sle := by
  obtain ⟨s1, s2, s3, s4, s5, s6, s7⟩ := RS
  have b480 := RB.1
  have b2 := RB.2.1
  have S1 : zRS (d + 1) T (nI (d + 1)) sc sbc slc sfc sbr sle (upd m 1 (nI (d + 1))) := ⟨hd1, rfl, z_upds _ _ _, by rw [z_updn _ (by omega)]; exact s4, s5, by rw [z_updn _ (by omega)]; exact s6, by rw [z_updn _ (by omega)]; exact s7⟩
  obtain ⟨L', B', D', b', c', hs', hb', hd', ht', bc', bh', bb', bf', bl', sbr', sle', m', g1, g2, g3, g4, g5, g6, g7, g8, g9⟩ := open_core b 0 b 0 b jFU jFU L B D hs hb hd ht bc bh bb bf bl sbr sle (upd m 1 (nI (d + 1))) (zRH_kept H (fun z hz => z_updn _ (by omega))) (zRR_kept RR (fun z hz => z_updn _ (by omega))) (zRB_kept RB (fun z hz => z_updn _ (by omega))) S1 (by omega) (by omega) (fun j hj => by omega) (by omega) (by omega) (pz_jFU (by omega)) (pz_jFU (by omega))
  refine ⟨L', B', D', b', c', hs', hb', hd', ht', bc', bh', bb', bf', bl', sbr', sle', m', ?_, ?_, g3, g4, g5, g6, by omega, by rw [nI_0] at g9; grind⟩
  · unfold f_X10_passesDay
    rw [if_pos (by decide), if_pos (by decide), show (1 : Int32).toNatClampNeg = 1 from rfl, s3, nI_1, show f_X10_passesDay_L14 jFU 0 0 = f_X10_passesDay_L14 jFU (nI 0) (nI 0) from rfl, g1, z_bind]
  · unfold f_X8_openBookings f_X0_size
    rw [z_bind, b2]
    rw [b2] at g2
    rcases g2 with g2 | ⟨x, g2⟩
    · rw [g2, z_bind]; rfl
    · rw [g2, z_bind]; rfl
theorem op_days {T n q x : Nat} {P W : Nat → Nat} {hc : Int32} {hp hw : Nat → Int32} {rc rn : Int32} {ri rb rp rt rf rl : Nat → Int32} {sc sbc slc sfc : Int32} (hx : x ≤ 30) :
    ∀ (r i d b c fu fu2 : Nat) (L B D : Nat → Nat) (hs hb hd ht : Nat → Int32) (bc : Int32) (bh bb bf bl : Nat → Int32) (sbr sle : Int32) (m : Nat → Int32), i + r = x → r < fu → r < fu2 → d + r ≤ T → 
    zRH n P W L B D T hc hp hw hs hb hd ht m → zRR q T rc rn ri rb rp rt rf rl m → zRB b n T bc bh bb bf bl m → zRS d T (nI d) sc sbc slc sfc sbr sle m →
    ∃ (L' B' D' : Nat → Nat) (b' c' d' : Nat) (hs' hb' hd' ht' : Nat → Int32) (bc' : Int32) (bh' bb' bf' bl' : Nat → Int32) (sbr' sle' : Int32) (m' : Nat → Int32),
      f_X10_daysIt_L22 (nI x) fu (nI i) (nI c) m = some (nI x, nI c', m') ∧
      f_X8_advance_L20 hc (nI x) fu2 (nI i) hs hb hd ht bc bh bb bf bl (nI d) sbr sle = some (nI x, hs', hb', hd', ht', bc', bh', bb', bf', bl', nI d', sbr', sle') ∧
      zRH n P W L' B' D' T hc hp hw hs' hb' hd' ht' m' ∧ zRR q T rc rn ri rb rp rt rf rl m' ∧ zRB b' n T bc' bh' bb' bf' bl' m' ∧ zRS d' T (nI d') sc sbc slc sfc sbr' sle' m' ∧ c' + b' ≤ c + b ∧ nI c' - nI c = sle' - sle := by
  intro r
  induction r with
  | zero =>
    intro i d b c fu fu2 L B D hs hb hd ht bc bh bb bf bl sbr sle m hi hf hf2 hdT H RR RB RS
    obtain rfl : i = x := by omega
    obtain ⟨fu, rfl⟩ : ∃ g, fu = g + 1 := ⟨fu - 1, by omega⟩
    obtain ⟨fu2, rfl⟩ : ∃ g, fu2 = g + 1 := ⟨fu2 - 1, by omega⟩
    refine ⟨L, B, D, b, c, d, hs, hb, hd, ht, bc, bh, bb, bf, bl, sbr, sle, m, ?_, ?_, H, RR, RB, RS, by omega, by grind⟩
    · rw [f_X10_daysIt_L22, if_pos (nI_le (Nat.le_refl _) (by omega))]
    · rw [f_X8_advance_L20, if_pos (nI_le (Nat.le_refl _) (by omega))]
  | succ r ih =>
    intro i d b c fu fu2 L B D hs hb hd ht bc bh bb bf bl sbr sle m hi hf hf2 hdT H RR RB RS
    obtain ⟨fu, rfl⟩ : ∃ g, fu = g + 1 := ⟨fu - 1, by omega⟩
    obtain ⟨fu2, rfl⟩ : ∃ g, fu2 = g + 1 := ⟨fu2 - 1, by omega⟩
    obtain ⟨L1, B1, D1, b1, c1, hs1, hb1, hd1, ht1, bc1, bh1, bb1, bf1, bl1, sbr1, sle1, m1, g1, g2, g3, g4, g5, g6, g7, g8⟩ := op_day H RR RB RS (by omega)
    obtain ⟨L', B', D', b', c', d', hs', hb', hd', ht', bc', bh', bb', bf', bl', sbr', sle', m', k1, k2, k3, k4, k5, k6, k7, k8⟩ := ih (i + 1) (d + 1) b1 (c + c1) fu fu2 L1 B1 D1 hs1 hb1 hd1 ht1 bc1 bh1 bb1 bf1 bl1 sbr1 sle1 m1 (by omega) (by omega) (by omega) (by omega) g3 g4 g5 g6
    refine ⟨L', B', D', b', c', d', hs', hb', hd', ht', bc', bh', bb', bf', bl', sbr', sle', m', ?_, ?_, k3, k4, k5, k6, by omega, ?_⟩
    · rw [f_X10_daysIt_L22, if_neg (nI_ge (by omega) (by omega)), g1, z_bind]
      show f_X10_daysIt_L22 (nI x) fu (nI i + 1) (nI c + nI c1) m1 = _
      rw [nI_1, nI_add]
      exact k1
    · rw [f_X8_advance_L20, if_neg (nI_ge (by omega) (by omega)), nI_1, g2, z_bind, nI_1]
      exact k2
    · rw [show nI (c + c1) = nI c + nI c1 from (nI_add c c1).symm] at k8
      grind
theorem op_advance {T : Nat} {hc : Int32} {hp hw hs hb hd ht : Nat → Int32} {rc rn : Int32} {ri rb rp rt rf rl : Nat → Int32} {bc : Int32} {bh bb bf bl : Nat → Int32} {sd sc sbc slc sfc sbr sle : Int32} {m : Nat → Int32}
    (R : zRel T hc hp hw hs hb hd ht rc rn ri rb rp rt rf rl bc bh bb bf bl sd sc sbc slc sfc sbr sle m) (hT : T ≤ 1000000) (th a0 : Int32) :
    (f_X8_advance hc hs hb hd ht bc bh bb bf bl sd sbr sle a0 = some (-1, hs, hb, hd, ht, bc, bh, bb, bf, bl, sd, sbr, sle) ∧ f_X10_daysIt m th a0 = some (-1, m, 1)) ∨
    (∃ j hs' hb' hd' ht' bc' bh' bb' bf' bl' sd' sbr' sle' m', j < 1000000 ∧ f_X8_advance hc hs hb hd ht bc bh bb bf bl sd sbr sle a0 = some (nI j, hs', hb', hd', ht', bc', bh', bb', bf', bl', sd', sbr', sle') ∧ f_X10_daysIt m th a0 = some (nI j, m', th) ∧ zRel (T + 30) hc hp hw hs' hb' hd' ht' rc rn ri rb rp rt rf rl bc' bh' bb' bf' bl' sd' sc sbc slc sfc sbr' sle' m') := by
  obtain ⟨n0, P0, W0, L0, B0, D0, q0, b0, d0, H0, RR0, RB0, RS0⟩ := R
  have d0T := RS0.1
  have Rm := zRel_mono (show zRel T hc hp hw hs hb hd ht rc rn ri rb rp rt rf rl bc bh bb bf bl sd sc sbc slc sfc sbr sle m from ⟨n0, P0, W0, L0, B0, D0, q0, b0, d0, H0, RR0, RB0, RS0⟩) (show T ≤ T + 30 by omega)
  obtain ⟨n, P, W, L, B, D, q, b, d, H, RR, RB, RS⟩ := Rm
  have sd0 := RS0.2.2.1
  have sd1 := RS.2.2.1
  have sde := RS.2.1
  have b480 := RB.1
  unfold f_X8_advance f_X10_daysIt
  by_cases c1 : a0 < 1
  · rw [if_pos c1, z_inF (y := 1) (z := 30) (nI 1) (nI 30) rfl rfl (fun h => (fa_of_lt (show a0 < nI 1 from c1)).2.1 h.1), z_bind, if_pos rfl]
    exact Or.inl ⟨rfl, rfl⟩
  · rw [if_neg c1]
    by_cases c2 : a0 ≤ 30
    · rw [if_pos c2, z_inT (y := 1) (z := 30) (nI 1) (nI 30) rfl rfl ⟨fa_of_nlt c1, c2⟩, z_bind, if_neg z_n10]
      have e : ∃ x, x ≤ 30 ∧ a0 = nI x := by
        have g0 : ¬ a0 < 0 := by
          intro h
          have e1 : (1 : Int32).toInt = 1 := by decide
          have e0 : (0 : Int32).toInt = 0 := by decide
          rw [Int32.lt_iff_toInt_lt] at h c1
          omega
        obtain ⟨x, hx, rfl⟩ := nI_of g0
        exact ⟨x, by rw [show (30 : Int32) = nI 30 from rfl, z_le (by omega) (by omega)] at c2; exact c2, rfl⟩
      obtain ⟨x, hx, rfl⟩ := e
      have dT : d + x ≤ T + 30 := by
        have h1 : nI d = nI d0 := by rw [← sd1, ← sd0]
        have := RS.1
        rw [z_eq (by omega) (by omega)] at h1
        omega
      rw [sde] at RS ⊢
      obtain ⟨L', B', D', b', c', d', hs', hb', hd', ht', bc', bh', bb', bf', bl', sbr', sle', m', k1, k2, k3, k4, k5, k6, k7, k8⟩ := op_days hx x 0 d b 0 jFU jFU L B D hs hb hd ht bc bh bb bf bl sbr sle m (by omega) (pz_jFU (by omega)) (pz_jFU (by omega)) dT H RR RB RS
      rw [show f_X8_advance_L20 hc (nI x) jFU 0 = f_X8_advance_L20 hc (nI x) jFU (nI 0) from rfl, k2, z_bind, show f_X10_daysIt_L22 (nI x) jFU 0 0 = f_X10_daysIt_L22 (nI x) jFU (nI 0) (nI 0) from rfl, k1, z_bind]
      refine Or.inr ⟨c', hs', hb', hd', ht', bc', bh', bb', bf', bl', nI d', sbr', sle', m', by omega, ?_, rfl, n, P, W, L', B', D', q, b', d', k3, k4, k5, k6⟩
      have e : sle' - sle = nI c' := by rw [nI_0] at k8; grind
      simp only [e]
    · rw [if_neg c2, z_inF (y := 1) (z := 30) (nI 1) (nI 30) rfl rfl (fun h => c2 h.2), z_bind, if_pos rfl]
      exact Or.inl ⟨rfl, rfl⟩

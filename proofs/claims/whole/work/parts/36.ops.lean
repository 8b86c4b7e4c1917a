/-! PURE: the changes, on both sides -/
theorem z_n10 : ¬ (1 : Int32) = 0 := by decide
theorem z_outL {α : Type} {x y : Int32} {n : Nat} (hy : y = nI n) (h : x < 0 ∨ nI n < x) (A B : α) : (if x < 0 then A else if x ≤ y then B else A) = A := by
  subst hy
  by_cases c : x < 0
  · rw [if_pos c]
  · rw [if_neg c, if_neg (fa_of_lt (h.resolve_left c)).2.1]
theorem z_inL {α : Type} {y : Int32} {n k : Nat} (hy : y = nI n) (hk : k ≤ n) (hn : n < 2147483648) (A B C : α) : (if nI k < 0 then A else if nI k ≤ y then B else C) = B := by
  subst hy
  rw [if_neg (nI_pos (by omega)), if_pos (nI_le hk hn)]
theorem z_outG {α : Type} {x y : Int32} {n : Nat} (hy : y = nI n) (h : x < 0 ∨ nI n < x) (A B : α) : (if x < 0 then A else if y < x then A else B) = A := by
  subst hy
  by_cases c : x < 0
  · rw [if_pos c]
  · rw [if_neg c, if_pos (h.resolve_left c)]
theorem z_inG {α : Type} {y : Int32} {n k : Nat} (hy : y = nI n) (hk : k ≤ n) (hn : n < 2147483648) (A B C : α) : (if nI k < 0 then A else if y < nI k then C else B) = B := by
  subst hy
  rw [if_neg (nI_pos (by omega)), if_neg (nI_nlt hk hn)]
def zRS (d T : Nat) (sd sc sbc slc sfc sbr sle : Int32) (m : Nat → Int32) : Prop :=
  d ≤ T ∧ sd = nI d ∧ m 1 = nI d ∧ m 2 = sc ∧ sc = (20 + sbc) + slc - sfc ∧ m 6 = sbr ∧ m 7 = sle
theorem zRS_kept {d T : Nat} {sd sc sbc slc sfc sbr sle : Int32} {m m' : Nat → Int32} (h : zRS d T sd sc sbc slc sfc sbr sle m) (hm : ∀ x, x = 1 ∨ x = 2 ∨ x = 6 ∨ x = 7 → m' x = m x) : zRS d T sd sc sbc slc sfc sbr sle m' := by
  obtain ⟨h1, h2, h3, h4, h5, h6, h7⟩ := h
  exact ⟨h1, h2, by rw [hm 1 (by omega)]; exact h3, by rw [hm 2 (by omega)]; exact h4, h5, by rw [hm 6 (by omega)]; exact h6, by rw [hm 7 (by omega)]; exact h7⟩
/-- the class' state and the model's array say the same -/
def zRel (T : Nat) (hc : Int32) (hp hw hs hb hd ht : Nat → Int32) (rc rn : Int32) (ri rb rp rt rf rl : Nat → Int32) (bc : Int32) (bh bb bf bl : Nat → Int32) (sd sc sbc slc sfc sbr sle : Int32) (m : Nat → Int32) : Prop :=
  ∃ (n : Nat) (P W L B D : Nat → Nat) (q b d : Nat), zRH n P W L B D T hc hp hw hs hb hd ht m ∧ zRR q T rc rn ri rb rp rt rf rl m ∧ zRB b n T bc bh bb bf bl m ∧ zRS d T sd sc sbc slc sfc sbr sle m
theorem zRB_n {b n n' T : Nat} {bc : Int32} {bh bb bf bl m : Nat → Int32} (h : zRB b n T bc bh bb bf bl m) (hn : n ≤ n') : zRB b n' T bc bh bb bf bl m := by
  obtain ⟨h1, h2, h3, h6, h7⟩ := h
  refine ⟨h1, h2, h3, h6, fun j hj => ?_⟩
  obtain ⟨a, w, d, a1, a2⟩ := h7 j hj
  exact ⟨a, w, d, by omega, a2⟩
theorem op_enlist {T : Nat} {hc : Int32} {hp hw hs hb hd ht : Nat → Int32} {rc rn : Int32} {ri rb rp rt rf rl : Nat → Int32} {bc : Int32} {bh bb bf bl : Nat → Int32} {sd sc sbc slc sfc sbr sle : Int32} {m : Nat → Int32}
    (R : zRel T hc hp hw hs hb hd ht rc rn ri rb rp rt rf rl bc bh bb bf bl sd sc sbc slc sfc sbr sle m) (th a0 a1 : Int32) :
    (∃ c th', ((c = -1 ∧ th' = 1) ∨ (c = -2 ∧ th' = 2) ∨ (c = -3 ∧ th' = 3)) ∧ f_X8_enlist hc hp hw hs ht a0 a1 = some (c, hc, hp, hw, hs, ht) ∧ f_X10_hammerIt m th a0 a1 = some (-1, m, th')) ∨
    (∃ j hc' hp' hw' hs' ht' m', j < 1000000 ∧ f_X8_enlist hc hp hw hs ht a0 a1 = some (nI j, hc', hp', hw', hs', ht') ∧ f_X10_hammerIt m th a0 a1 = some (nI j, m', th) ∧ zRel T hc' hp' hw' hs' hb hd ht' rc rn ri rb rp rt rf rl bc bh bb bf bl sd sc sbc slc sfc sbr sle m') := by
  obtain ⟨n, P, W, L, B, D, q, b, d, H, RR, RB, RS⟩ := R
  have H0 := H
  obtain ⟨h1, h2, h3, h4, h5, h6, h7, h8, h9, h10⟩ := H
  subst h2
  unfold f_X8_enlist f_X10_hammerIt
  rcases z_rng a0 (n := 60) (by omega) with ⟨x, hx, rfl, hin⟩ | ⟨hout, hin⟩
  · rw [z_inL (n := 60) (y := 60) rfl hx (by omega), z_inT (y := 0) (z := 60) (nI 0) (nI 60) rfl rfl hin, z_bind, if_neg z_n10]
    rcases z_isRack a1 with ⟨r, hr, rfl, e9, e10⟩ | ⟨e9, e10⟩
    · rw [e9, e10, z_bind, z_bind, if_neg z_n10, if_neg z_n10, x2_freePlaceOf h1 hr h9, z_bind, x2_isFull h1, z_bind, if_pos (show jin 0 2048 = true by decide), show (0 : Int32).toNatClampNeg = 0 from rfl, h3]
      by_cases full : n < 12
      · rw [if_pos (show (if n < 12 then (0 : Int32) else 1) = 0 by rw [if_pos full]), if_neg (show ¬ nI n = (12 : Int32) by rw [show (12 : Int32) = nI 12 from rfl, z_eq (by omega) (by omega)]; omega), x10_freePlace h1 h3 (fun k hk => ⟨(h6 k hk).2.2.1, (h6 k hk).2.2.2⟩) hr, z_bind, z_bind]
        by_cases fr : zFree n L r < 6
        · have e : zO 6 (zFree n L r) = nI (zFree n L r) := by unfold zO; rw [if_pos fr]
          rw [if_neg (show ¬ zO 6 (zFree n L r) = -1 by rw [e, z_m1 (by omega)]; exact id), if_neg (show ¬ zO 6 (zFree n L r) = -1 by rw [e, z_m1 (by omega)]; exact id), e, x2_add hp hw hs (nI x) full, z_bind]
          dsimp only
          rw [x2_setContent _ ht (by omega) hr fr (by omega), z_bind, x10_hammerOf, z_bind]
          simp only [z_addl]
          rw [if_pos (show jin (nI (8 + 6 * n)) 2048 = true by rw [z_jin (by omega)]; simp; omega), if_pos (show jin (nI (8 + 6 * n + 2)) 2048 = true by rw [z_jin (by omega)]; simp; omega), if_pos (show jin (nI (8 + 6 * n + 3)) 2048 = true by rw [z_jin (by omega)]; simp; omega), if_pos (show jin 0 2048 = true by decide), z_cl (by omega), z_cl (by omega), z_cl (by omega)]
          have M0 : (upd (upd (upd m (8 + 6 * n) (nI x)) (8 + 6 * n + 2) (nI r)) (8 + 6 * n + 3) (nI (zFree n L r))) 0 = nI n := by
            rw [z_updn _ (by omega), z_updn _ (by omega), z_updn _ (by omega), h3]
          simp only [M0, nI_1, z_upds, show jin 0 2048 = true from by decide, if_true]
          refine Or.inr ⟨n, _, _, _, _, _, _, by omega, rfl, by rw [show nI (n + 1) - 1 = nI n from nI_pred n], ?_⟩
          refine ⟨n + 1, _, _, _, B, D, q, b, d, zRH_add H0 full hr fr (zFree_no fr) hx, ?_, ?_, ?_⟩
          · exact zRR_kept RR (fun z hz => by rw [z_updn _ (by omega), z_updn _ (by omega), z_updn _ (by omega), z_updn _ (by omega)])
          · exact zRB_n (zRB_kept RB (fun z hz => by rw [z_updn _ (by omega), z_updn _ (by omega), z_updn _ (by omega), z_updn _ (by omega)])) (by omega)
          · exact zRS_kept RS (fun z hz => by rw [z_updn _ (by omega), z_updn _ (by omega), z_updn _ (by omega), z_updn _ (by omega)])
        · have e : zO 6 (zFree n L r) = -1 := by unfold zO; rw [if_neg fr]
          rw [if_pos e, if_pos e]
          exact Or.inl ⟨-3, 3, Or.inr (Or.inr ⟨rfl, rfl⟩), rfl, rfl⟩
      · have e12 : n = 12 := by omega
        subst e12
        rw [if_neg (show ¬ (if 12 < 12 then (0 : Int32) else 1) = 0 by decide), if_pos (show nI 12 = (12 : Int32) from rfl)]
        exact Or.inl ⟨-3, 3, Or.inr (Or.inr ⟨rfl, rfl⟩), rfl, rfl⟩
    · rw [e9, e10, z_bind, z_bind, if_pos rfl, if_pos rfl]
      exact Or.inl ⟨-2, 2, Or.inr (Or.inl ⟨rfl, rfl⟩), rfl, rfl⟩
  · rw [z_outL (n := 60) (y := 60) rfl hout, z_inF (y := 0) (z := 60) (nI 0) (nI 60) rfl rfl hin, z_bind, if_pos rfl]
    exact Or.inl ⟨-1, 1, Or.inl ⟨rfl, rfl⟩, rfl, rfl⟩
theorem op_carry {T : Nat} {hc : Int32} {hp hw hs hb hd ht : Nat → Int32} {rc rn : Int32} {ri rb rp rt rf rl : Nat → Int32} {bc : Int32} {bh bb bf bl : Nat → Int32} {sd sc sbc slc sfc sbr sle : Int32} {m : Nat → Int32}
    (R : zRel T hc hp hw hs hb hd ht rc rn ri rb rp rt rf rl bc bh bb bf bl sd sc sbc slc sfc sbr sle m) (th a0 a1 : Int32) :
    (∃ c th', ((c = -2 ∧ th' = 1) ∨ (c = -3 ∧ th' = 2)) ∧ f_X8_carry hc hs ht a0 a1 = some (c, hs, ht) ∧ f_X10_moveIt m th a0 a1 = some (-1, m, th')) ∨
    (∃ j hs' ht' m', j < 1000000 ∧ f_X8_carry hc hs ht a0 a1 = some (nI j, hs', ht') ∧ f_X10_moveIt m th a0 a1 = some (nI j, m', th) ∧ zRel T hc hp hw hs' hb hd ht' rc rn ri rb rp rt rf rl bc bh bb bf bl sd sc sbc slc sfc sbr sle m') := by
  obtain ⟨n, P, W, L, B, D, q, b, d, H, RR, RB, RS⟩ := R
  have H0 := H
  obtain ⟨h1, h2, h3, h4, h5, h6, h7, h8, h9, h10⟩ := H
  subst h2
  unfold f_X8_carry f_X10_moveIt
  rcases z_arg a0 (n := n) (by omega) with ⟨k, hk, rfl⟩ | hout
  · rw [x2_hasT h1 hk, x10_isHammerT h1 h3 hk, z_bind, z_bind, if_neg z_n10, if_neg z_n10]
    rcases z_isRack a1 with ⟨r, hr, rfl, e9, e10⟩ | ⟨e9, e10⟩
    · rw [e9, e10, z_bind, z_bind, if_neg z_n10, if_neg z_n10, x2_freePlaceOf h1 hr h9, z_bind, x2_isAway hs h1 hk (h5 k hk).2.2, z_bind, x10_hammerOf, z_bind, z_addl, if_pos (show jin (nI (8 + 6 * k + 2)) 2048 = true by rw [z_jin (by omega)]; simp; omega), z_cl (by omega), (h6 k hk).2.2.1]
      by_cases aw : 18 ≤ L k
      · rw [if_neg (show ¬ (if 18 ≤ L k then (1 : Int32) else 0) = 0 by rw [if_pos aw]; decide), if_pos (show zR (L k) = -1 by rw [zR_m1]; exact aw)]
        exact Or.inl ⟨-3, 2, Or.inr ⟨rfl, rfl⟩, rfl, rfl⟩
      · rw [if_pos (show (if 18 ≤ L k then (1 : Int32) else 0) = 0 by rw [if_neg aw]), if_neg (show ¬ zR (L k) = -1 by rw [zR_m1]; exact aw), x2_slotOf hs h1 hk, z_bind, (h5 k hk).2.2, zS_lt (by omega), show nI (L k) / 6 = nI (L k / 6) from pk_div (d := 6) (by omega) (by omega) (by omega), if_pos (show jin (nI (8 + 6 * k + 2)) 2048 = true by rw [z_jin (by omega)]; simp; omega), show zR (L k) = nI (L k / 6) by unfold zR; rw [if_pos (by omega)]]
        by_cases same : L k / 6 = r
        · have e : nI (L k / 6) = nI r := by rw [same]
          rw [if_pos e, if_pos e]
          exact Or.inl ⟨-3, 2, Or.inr ⟨rfl, rfl⟩, rfl, rfl⟩
        · have e : ¬ nI (L k / 6) = nI r := by rw [z_eq (by omega) (by omega)]; exact same
          rw [if_neg e, if_neg e, x10_freePlace h1 h3 (fun k hk => ⟨(h6 k hk).2.2.1, (h6 k hk).2.2.2⟩) hr, z_bind, z_bind]
          by_cases fr : zFree n L r < 6
          · have e : zO 6 (zFree n L r) = nI (zFree n L r) := by unfold zO; rw [if_pos fr]
            rw [if_neg (show ¬ zO 6 (zFree n L r) = -1 by rw [e, z_m1 (by omega)]; exact id), if_neg (show ¬ zO 6 (zFree n L r) = -1 by rw [e, z_m1 (by omega)]; exact id), e, x2_takeOut hs ht h1 hk (show L k < 18 by omega) (by rw [(h5 k hk).2.2, zS_lt (by omega)]), z_bind]
            dsimp only
            rw [x2_setContent _ _ h1 hr fr hk, z_bind]
            simp only [z_addl, show jin (nI (8 + 6 * k + 2)) 2048 = true from by rw [z_jin (by omega)]; simp; omega, show jin (nI (8 + 6 * k + 3)) 2048 = true from by rw [z_jin (by omega)]; simp; omega, if_true, z_cl (show 8 + 6 * k + 2 < 2147483648 by omega), z_cl (show 8 + 6 * k + 3 < 2147483648 by omega)]
            refine Or.inr ⟨zFree n L r, _, _, _, by omega, rfl, rfl, ?_⟩
            refine ⟨n, P, W, _, B, D, q, b, d, zRH_move H0 hk rfl (by omega) hr fr (zFree_no fr), ?_, ?_, ?_⟩
            · exact zRR_kept RR (fun z hz => by rw [z_updn _ (by omega), z_updn _ (by omega)])
            · exact zRB_kept RB (fun z hz => by rw [z_updn _ (by omega), z_updn _ (by omega)])
            · exact zRS_kept RS (fun z hz => by rw [z_updn _ (by omega), z_updn _ (by omega)])
          · have e : zO 6 (zFree n L r) = -1 := by unfold zO; rw [if_neg fr]
            rw [if_pos e, if_pos e]
            exact Or.inl ⟨-3, 2, Or.inr ⟨rfl, rfl⟩, rfl, rfl⟩
    · rw [e9, e10, z_bind, z_bind, if_pos rfl, if_pos rfl]
      exact Or.inl ⟨-2, 1, Or.inl ⟨rfl, rfl⟩, rfl, rfl⟩
  · rw [x2_hasF hout, x10_isHammerF h1 h3 hout, z_bind, z_bind, if_pos rfl, if_pos rfl]
    exact Or.inl ⟨-2, 1, Or.inl ⟨rfl, rfl⟩, rfl, rfl⟩
theorem z_jmin100 {w s : Nat} (hw : w ≤ 100) (hs : s ≤ 999) : jmin (100 : Int32) (nI w + nI s / 10) = nI (if 100 < w + s / 10 then 100 else w + s / 10) := by
  rw [show nI s / 10 = nI (s / 10) from pk_div (d := 10) (by omega) (by omega) (by omega), nI_add]
  unfold jmin
  by_cases c : w + s / 10 < 100
  · rw [if_pos (show nI (w + s / 10) < (100 : Int32) from nI_lt (b := 100) c (by omega)), if_neg (by omega)]
  · rw [if_neg (show ¬ nI (w + s / 10) < (100 : Int32) from nI_nlt (b := 100) (by omega) (by omega))]
    by_cases d : 100 < w + s / 10
    · rw [if_pos d]; rfl
    · rw [if_neg d, show w + s / 10 = 100 by omega]; rfl
theorem op_takeBack {T : Nat} {hc : Int32} {hp hw hs hb hd ht : Nat → Int32} {rc rn : Int32} {ri rb rp rt rf rl : Nat → Int32} {bc : Int32} {bh bb bf bl : Nat → Int32} {sd sc sbc slc sfc sbr sle : Int32} {m : Nat → Int32}
    (R : zRel T hc hp hw hs hb hd ht rc rn ri rb rp rt rf rl bc bh bb bf bl sd sc sbc slc sfc sbr sle m) (th a0 a1 a2 : Int32) :
    (∃ c th', ((c = -2 ∧ th' = 1) ∨ (c = -1 ∧ th' = 2) ∨ (c = -3 ∧ th' = 3)) ∧ f_X8_takeBack hc hw hs hd ht sd sc slc a0 a1 a2 = some (c, hw, hs, ht, sc, slc) ∧ f_X10_backIt m th a0 a1 a2 = some (-1, m, th')) ∨
    (∃ j hw' hs' ht' sc' slc' m', j < 1000000 ∧ f_X8_takeBack hc hw hs hd ht sd sc slc a0 a1 a2 = some (nI j, hw', hs', ht', sc', slc') ∧ f_X10_backIt m th a0 a1 a2 = some (nI j, m', th) ∧ zRel T hc hp hw' hs' hb hd ht' rc rn ri rb rp rt rf rl bc bh bb bf bl sd sc' sbc slc' sfc sbr sle m') := by
  obtain ⟨n, P, W, L, B, D, q, b, d, H, RR, RB, RS⟩ := R
  have H0 := H
  obtain ⟨h1, h2, h3, h4, h5, h6, h7, h8, h9, h10⟩ := H
  subst h2
  unfold f_X8_takeBack f_X10_backIt
  rcases z_arg a0 (n := n) (by omega) with ⟨k, hk, rfl⟩ | hout
  · rw [x2_hasT h1 hk, x10_isHammerT h1 h3 hk, z_bind, z_bind, if_neg z_n10, if_neg z_n10]
    rcases z_isRack a2 with ⟨r, hr, rfl, e9, e10⟩ | ⟨e9, e10⟩
    · rw [e9, e10, z_bind, z_bind, if_neg z_n10, if_neg z_n10]
      rcases z_rng a1 (n := 999) (by omega) with ⟨x, hx, rfl, hin⟩ | ⟨hout, hin⟩
      · rw [z_inL (n := 999) (y := 999) rfl hx (by omega), z_inT (y := 0) (z := 999) (nI 0) (nI 999) rfl rfl hin, z_bind, if_neg z_n10, x2_freePlaceOf h1 hr h9, z_bind, x2_isAway hs h1 hk (h5 k hk).2.2, z_bind, x10_hammerOf, z_bind]
        simp only [z_addl]
        rw [if_pos (show jin (nI (8 + 6 * k + 2)) 2048 = true by rw [z_jin (by omega)]; simp; omega), z_cl (show 8 + 6 * k + 2 < 2147483648 by omega), (h6 k hk).2.2.1]
        by_cases aw : 18 ≤ L k
        · have l18 : L k = 18 := by have := (h4 k hk).2.2; omega
          have dd := h7 k hk l18
          rw [if_neg (show ¬ (if 18 ≤ L k then (1 : Int32) else 0) = 0 by rw [if_pos aw]; decide), if_pos (show zR (L k) = -1 by rw [zR_m1]; exact aw), x10_freePlace h1 h3 (fun k hk => ⟨(h6 k hk).2.2.1, (h6 k hk).2.2.2⟩) hr, z_bind, z_bind]
          by_cases fr : zFree n L r < 6
          · have e : zO 6 (zFree n L r) = nI (zFree n L r) := by unfold zO; rw [if_pos fr]
            have e1 : ¬ zO 6 (zFree n L r) = -1 := by rw [e, z_m1 (by omega)]; exact id
            rw [if_neg e1, if_neg e1, e, x2_wearOf hw h1 hk, z_bind, x2_dueDayOf hd h1 hk, z_bind, x2_setWear hw _ h1 hk, z_bind, x2_setContent _ _ h1 hr fr hk, z_bind, (h5 k hk).2.1, z_jmin100 (by have := h4 k hk; omega) hx]
            have j : ∀ x, x < 2048 → jin (nI x) 2048 = true := fun x hx => by rw [z_jin (by omega)]; simp; omega
            simp only [j (8 + 6 * k + 1) (by omega), j (8 + 6 * k + 2) (by omega), j (8 + 6 * k + 3) (by omega), j (8 + 6 * k + 4) (by omega), j (8 + 6 * k + 5) (by omega), show jin 2 2048 = true from by decide, show jin 1 2048 = true from by decide, if_true, z_cl (show 8 + 6 * k + 1 < 2147483648 by omega), z_cl (show 8 + 6 * k + 2 < 2147483648 by omega), z_cl (show 8 + 6 * k + 3 < 2147483648 by omega), z_cl (show 8 + 6 * k + 4 < 2147483648 by omega), z_cl (show 8 + 6 * k + 5 < 2147483648 by omega), show (1 : Int32).toNatClampNeg = 1 from rfl, show (2 : Int32).toNatClampNeg = 2 from rfl]
            obtain ⟨s1, s2, s3, s4, s5, s6, s7⟩ := RS
            rw [z_updn (f := m) (j := 8 + 6 * k + 1) _ (by omega), (h6 k hk).2.1, z_jmin100 (by have := h4 k hk; omega) hx, s3, s4, dd.2.2.2.2.2, dd.2.2.2.1, s2]
            rw [z_updn (j := 8 + 6 * k + 1) _ (by omega), z_updn (j := 8 + 6 * k + 1) _ (by omega), z_updn (j := 8 + 6 * k + 1) _ (by omega), z_updn (j := 8 + 6 * k + 1) _ (by omega), z_upds]
            refine Or.inr ⟨(if 100 < W k + x / 10 then 100 else W k + x / 10), _, _, _, _, _, _, ?_, rfl, rfl, ?_⟩
            · have := h4 k hk; split <;> omega
            · have H1 : zRH n P W L B D T (nI n) hp hw hs hb hd ht (upd m 2 (sc + 2 * jmax 0 (nI d - nI (D k)))) := zRH_kept H0 (fun z hz => by rw [z_updn _ (by omega)])
              refine ⟨n, P, _, _, B, D, q, b, d, zRH_back H1 hk l18 hr fr (zFree_no fr) (w := (if 100 < W k + x / 10 then 100 else W k + x / 10)) (by split <;> omega), ?_, ?_, ?_⟩
              · exact zRR_kept RR (fun z hz => by rw [z_updn _ (by omega), z_updn _ (by omega), z_updn _ (by omega), z_updn _ (by omega), z_updn _ (by omega), z_updn _ (by omega)])
              · exact zRB_kept RB (fun z hz => by rw [z_updn _ (by omega), z_updn _ (by omega), z_updn _ (by omega), z_updn _ (by omega), z_updn _ (by omega), z_updn _ (by omega)])
              · refine ⟨s1, rfl, ?_, ?_, ?_, ?_, ?_⟩
                · rw [z_updn _ (by omega), z_updn _ (by omega), z_updn _ (by omega), z_updn _ (by omega), z_updn _ (by omega), z_updn _ (by omega)]; exact s3
                · rw [z_updn _ (by omega), z_updn _ (by omega), z_updn _ (by omega), z_updn _ (by omega), z_updn _ (by omega), z_upds]
                · rw [s5]; generalize (2 : Int32) * jmax 0 (nI d - nI (D k)) = z; grind
                · rw [z_updn _ (by omega), z_updn _ (by omega), z_updn _ (by omega), z_updn _ (by omega), z_updn _ (by omega), z_updn _ (by omega)]; exact s6
                · rw [z_updn _ (by omega), z_updn _ (by omega), z_updn _ (by omega), z_updn _ (by omega), z_updn _ (by omega), z_updn _ (by omega)]; exact s7
          · have e : zO 6 (zFree n L r) = -1 := by unfold zO; rw [if_neg fr]
            rw [if_pos e, if_pos e]
            exact Or.inl ⟨-3, 3, Or.inr (Or.inr ⟨rfl, rfl⟩), rfl, rfl⟩
        · rw [if_pos (show (if 18 ≤ L k then (1 : Int32) else 0) = 0 by rw [if_neg aw]), if_neg (show ¬ zR (L k) = -1 by rw [zR_m1]; exact aw)]
          exact Or.inl ⟨-3, 3, Or.inr (Or.inr ⟨rfl, rfl⟩), rfl, rfl⟩
      · rw [z_outL (n := 999) (y := 999) rfl hout, z_inF (y := 0) (z := 999) (nI 0) (nI 999) rfl rfl hin, z_bind, if_pos rfl]
        exact Or.inl ⟨-1, 2, Or.inr (Or.inl ⟨rfl, rfl⟩), rfl, rfl⟩
    · rw [e9, e10, z_bind, z_bind, if_pos rfl, if_pos rfl]
      exact Or.inl ⟨-2, 1, Or.inl ⟨rfl, rfl⟩, rfl, rfl⟩
  · rw [x2_hasF hout, x10_isHammerF h1 h3 hout, z_bind, z_bind, if_pos rfl, if_pos rfl]
    exact Or.inl ⟨-2, 1, Or.inl ⟨rfl, rfl⟩, rfl, rfl⟩

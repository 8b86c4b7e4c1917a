/-! PURE: totals, the most grants, and that the class is consistent -/
section ZT
variable {n T q b d : Nat} {P W L B D : Nat → Nat} {hc rc rn bc sd sc sbc slc sfc sbr sle : Int32} {hp hw hs hb hd ht ri rb rp rt rf rl bh bb bf bl m : Nat → Int32}
abbrev zMk (hp hw hs hd rp rt rf rl : Nat → Int32) (b : Nat) (bh bf bl : Nat → Int32) (n r : Nat) : Nat := zMsk (fun h => zMay hp hw hs hd rp rt rf rl b bh bf bl r h) n
theorem x9_most (H : zRH n P W L B D T hc hp hw hs hb hd ht m) (R : zRR q T rc rn ri rb rp rt rf rl m) (G : zRB b n T bc bh bb bf bl m) (gc gu : Int32) (gf gh : Nat → Int32) : ∃ v gf' gh' gu', v ≤ 8 ∧ zMin 0 q (zMk hp hw hs hd rp rt rf rl b bh bf bl n) (fun h => (4095 : Nat).testBit h) v ∧ f_X9_mostGrants hc hp hw hs hd rc rp rt rf rl bc bh bf bl gc gf gh gu = some (nI v, nI q, gf', gh', gu') := by
  obtain ⟨h1, h2, _⟩ := H
  obtain ⟨r1, r2, _⟩ := R
  obtain ⟨b1, b2, _⟩ := G
  subst h2 r2 b2
  obtain ⟨gf', e1, e2⟩ := x4_load gc gf hp hw hs hd rp rt rf rl bh bf bl h1 r1 b1
  obtain ⟨v, gh', gu', e3, e4, e5⟩ := x4_greatestFrom (f := 0) (u := 4095) (mk := zMk hp hw hs hd rp rt rf rl b bh bf bl n) gh gu r1 e2 (fun r _ => zMsk_4096 _ h1) (by omega) (by omega)
  refine ⟨v, gf', gh', gu', e5, e4, ?_⟩
  unfold f_X9_mostGrants f_X4_greatest
  rw [e1, z_bind]
  dsimp only
  rw [show f_X4_greatestFrom (nI q) gf' gh gu 0 4095 = _ from e3, z_bind, z_bind]
theorem x9_mostS (H : zRH n P W L B D T hc hp hw hs hb hd ht m) (R : zRR q T rc rn ri rb rp rt rf rl m) (G : zRB b n T bc bh bb bf bl m) (gc : Int32) (gf : Nat → Int32) : ∃ v gf', zMin 0 q (zMk hp hw hs hd rp rt rf rl b bh bf bl n) (fun h => (4095 : Nat).testBit h) v ∧ f_X9_mostGrantsBySets hc hp hw hs hd rc rp rt rf rl bc bh bf bl gc gf = some (nI v, nI q, gf') := by
  obtain ⟨h1, h2, _⟩ := H
  obtain ⟨r1, r2, _⟩ := R
  obtain ⟨b1, b2, _⟩ := G
  subst h2 r2 b2
  obtain ⟨gf', e1, e2⟩ := x4_load gc gf hp hw hs hd rp rt rf rl bh bf bl h1 r1 b1
  obtain ⟨v, e3, e4⟩ := x4_greatestBySets (mk := zMk hp hw hs hd rp rt rf rl b bh bf bl n) r1 e2 (fun r _ => zMsk_4096 _ h1)
  refine ⟨v, gf', e4, ?_⟩
  unfold f_X9_mostGrantsBySets
  rw [e1, z_bind]
  dsimp only
  rw [e3, z_bind]
theorem x10_mostG (H : zRH n P W L B D T hc hp hw hs hb hd ht m) (R : zRR q T rc rn ri rb rp rt rf rl m) (G : zRB b n T bc bh bb bf bl m) (th : Int32) (fit : Nat → Int32) : ∃ v fit', zMin 0 q (zMk hp hw hs hd rp rt rf rl b bh bf bl n) (fun h => (4095 : Nat).testBit h) v ∧ f_X10_mostGrants m th fit = some (nI v, 0, fit') := by
  have n12 := H.1
  have q8 := R.1
  have hm0 := H.2.2.1
  have hm4 := R.2.2.1
  obtain ⟨fit', e3, e4⟩ := x10_worksFitting fit H R G
  have mk4 : ∀ r, r < q → zMk hp hw hs hd rp rt rf rl b bh bf bl n r < 4096 := fun r _ => zMsk_4096 _ n12
  have mkn : ∀ r h, r < q → n ≤ h → (zMk hp hw hs hd rp rt rf rl b bh bf bl n r).testBit h = false := by
    intro r h _ hh
    rw [zMsk_bit]
    have : ¬ h < n := by omega
    simp [this]
  have q256 := z_pow256 q8
  have n4096 : 2 ^ n - 1 < 4096 := by
    have : 2 ^ n ≤ 2 ^ 12 := Nat.pow_le_pow_right (by omega) n12
    have : 0 < 2 ^ n := Nat.two_pow_pos n
    omega
  obtain ⟨G', e7, e8⟩ := x10_most (f := 0) (mk := zMk hp hw hs hd rp rt rf rl b bh bf bl n) q8 hm4 e4 mk4 (R := 2 ^ q - 1) (A := 2 ^ n - 1) (fun x => by rw [zOnes_bit]; simp) (by omega) n4096
  refine ⟨G', fit', zMin_cong (fun k hk ⟨r, r1, r2⟩ => by
    have all1 : ∀ h, h < 12 → (4095 : Nat).testBit h = true := by decide
    rw [all1 k hk, zOnes_bit]
    rcases Nat.lt_or_ge k n with z | z
    · simp [z]
    · rw [mkn r k r1 z] at r2; cases r2) e8, ?_⟩
  unfold f_X10_mostGrants f_X10_mostNow
  rw [e3, z_bind, if_pos (show jin 4 2048 = true by decide), if_pos (show jin 0 2048 = true by decide), show (4 : Int32).toNatClampNeg = 4 from rfl, show (0 : Int32).toNatClampNeg = 0 from rfl, hm4, hm0, z_ones q (by omega), z_ones n (by omega), e7, z_bind, z_bind]
theorem get_most (H : zRH n P W L B D T hc hp hw hs hb hd ht m) (R : zRR q T rc rn ri rb rp rt rf rl m) (G : zRB b n T bc bh bb bf bl m) (th gc gu : Int32) (gf gh fit : Nat → Int32) : ∃ v gc' gf' gh' gu' fit', f_X9_mostGrants hc hp hw hs hd rc rp rt rf rl bc bh bf bl gc gf gh gu = some (v, gc', gf', gh', gu') ∧ f_X10_mostGrants m th fit = some (v, 0, fit') := by
  obtain ⟨v, gf', gh', gu', _, a, e⟩ := x9_most H R G gc gu gf gh
  obtain ⟨w, fit', a', e'⟩ := x10_mostG H R G th fit
  refine ⟨nI v, _, gf', gh', gu', fit', e, ?_⟩
  rw [e', zMin_one a a']
theorem get_mostS (H : zRH n P W L B D T hc hp hw hs hb hd ht m) (R : zRR q T rc rn ri rb rp rt rf rl m) (G : zRB b n T bc bh bb bf bl m) (th gc : Int32) (gf fit : Nat → Int32) : ∃ v gc' gf' fit', f_X9_mostGrantsBySets hc hp hw hs hd rc rp rt rf rl bc bh bf bl gc gf = some (v, gc', gf') ∧ f_X10_mostGrantsBySets m th fit = some (v, 0, fit') := by
  obtain ⟨v, gf', a, e⟩ := x9_mostS H R G gc gf
  obtain ⟨w, fit', a', e'⟩ := x10_mostG H R G th fit
  refine ⟨nI v, _, gf', fit', e, ?_⟩
  unfold f_X10_mostGrantsBySets
  rw [e', z_bind, zMin_one a a']
theorem x2_lie (H : zRH n P W L B D T hc hp hw hs hb hd ht m) : f_X2_lieWhereTheyShould hc hs ht = some 1 := by
  obtain ⟨h1, h2, h3, h4, h5, h6, h7, h8, h9, h10⟩ := H
  subst h2
  have key := pzL (F := f_X2_lieWhereTheyShould_L2 (nI n) hs ht) (n := 18) (fun _ => false) (fun _ => (0 : Int32))
    (fun fu => by rw [f_X2_lieWhereTheyShould_L2, if_pos (by decide)])
    (fun fu k hk => by
      rw [if_neg (by decide), f_X2_lieWhereTheyShould_L2, if_neg (show ¬ (18 : Int32) ≤ nI k from nI_ge (b := 18) hk (by omega)), if_pos (show jin (nI k) 18 = true by rw [z_jin (by omega)]; simp; omega), z_cl (by omega), h9 k hk, nI_1]
      by_cases c : zAt n L k < n
      · rw [if_neg (show ¬ zO n (zAt n L k) = -1 by rw [zO_m1 h1]; omega), show zO n (zAt n L k) = nI (zAt n L k) by unfold zO; rw [if_pos c], x2_slotOf hs h1 c, z_bind, (h5 _ c).2.2, zAt_slot c, zS_lt (by omega), if_pos rfl]
      · rw [if_pos (show zO n (zAt n L k) = -1 by rw [zO_m1 h1]; omega)])
    jFU (pz_jFU (by omega))
  unfold f_X2_lieWhereTheyShould
  rw [show f_X2_lieWhereTheyShould_L2 (nI n) hs ht jFU 0 = _ from key, if_neg (show ¬ pzf (fun _ => false) 18 < 18 from fun h => absurd (pzf_yes h) (by decide))]
  rfl
theorem x9_swapsAgree (H : zRH n P W L B D T hc hp hw hs hb hd ht m) : f_X9_swapsAgree hc hp ht = some 1 := by
  have key := pzL (F := f_X9_swapsAgree_L2 hc hp ht) (n := 3) (fun _ => false) (fun _ => (0 : Int32))
    (fun fu => by rw [f_X9_swapsAgree_L2, if_pos (by decide)])
    (fun fu k hk => by
      obtain ⟨c1, c2, c3, _, _⟩ := zRH_code H hk
      have h2 := H.2.1
      subst h2
      rw [if_neg (by decide), f_X9_swapsAgree_L2, if_neg (show ¬ (3 : Int32) ≤ nI k from nI_ge (b := 3) hk (by omega)), c1, z_bind, c2, z_bind, c3, z_bind, if_pos rfl, nI_1])
    jFU (pz_jFU (by omega))
  unfold f_X9_swapsAgree
  rw [show f_X9_swapsAgree_L2 hc hp ht jFU 0 = _ from key, if_neg (show ¬ pzf (fun _ => false) 3 < 3 from fun h => absurd (pzf_yes h) (by decide))]
  rfl
theorem x9_chordsAgree (H : zRH n P W L B D T hc hp hw hs hb hd ht m) (c0 cs : Int32) (cp cc : Nat → Int32) : ∃ c0' cs' cp' cc', f_X9_chordsAgree hc hp hs c0 cs cp cc = some (1, c0', cs', cp', cc') := by
  obtain ⟨h1, h2, h3, h4, h5, h6, h7, h8, h9, h10⟩ := H
  subst h2
  obtain ⟨cp', cc', e, ecc⟩ := x1_load (P := P) c0 cp cc h1 (fun k hk => ⟨(h4 k hk).1, (h5 k hk).1⟩) (fun k hk => (h5 k hk).2.2)
  have ct := fb_ct_le (zSt L) n
  have loop := pzC (F := f_X9_chordsAgree_L16 (nI (fb_ct (zSt L) n)) cp' cc') (n := 4) (I := fun k _ => 1 ≤ k) (Q := fun o => ∃ x cs', o = some (.inr (x, cs')))
    (fun fu s _ => ⟨_, _, by rw [f_X9_chordsAgree_L16, if_pos (by decide)]⟩)
    (fun fu k s hk h1k => by
      refine Or.inr ?_
      rw [f_X9_chordsAgree_L16, if_neg (show ¬ (3 : Int32) < nI k from nI_nlt (a := 3) (by omega) (by omega)), nI_1]
      unfold f_X1_allow
      by_cases c : fb_ct (zSt L) n < k
      · rw [if_pos (nI_lt c (by omega)), z_bind, if_pos rfl]
        exact ⟨s, by omega, rfl⟩
      · obtain ⟨v, _, v1, v2⟩ := x1_best s (show fb_ct (zSt L) n ≤ 12 by omega) (show k < 6 by omega) (by omega) ecc (zCn_15 (fun k hk => (h4 k hk).1))
        obtain ⟨w, _, w1, w2⟩ := x1_bestBySets (show fb_ct (zSt L) n ≤ 12 by omega) (show k < 6 by omega) (by omega) ecc (zCn_15 (fun k hk => (h4 k hk).1)) (fun i j _ _ => zCn_sym n P L i j)
        rw [if_neg (nI_nlt (by omega) (by omega)), z_bind, if_neg z_n10, v2, z_bind, w2, z_bind]
        dsimp only
        rw [if_pos (by rw [zMax_one v1 w1])]
        exact ⟨_, by omega, rfl⟩)
    3 1 cs jFU rfl (pz_jFU (by omega)) (Nat.le_refl _)
  obtain ⟨x, cs', el⟩ := loop
  refine ⟨nI (fb_ct (zSt L) n), cs', cp', cc', ?_⟩
  unfold f_X9_chordsAgree
  rw [e, z_bind]
  dsimp only
  rw [show f_X9_chordsAgree_L16 (nI (fb_ct (zSt L) n)) cp' cc' jFU 1 cs = _ from el]
  rfl
theorem get_consistent (H : zRH n P W L B D T hc hp hw hs hb hd ht m) (R : zRR q T rc rn ri rb rp rt rf rl m) (G : zRB b n T bc bh bb bf bl m) (S : zRS d T sd sc sbc slc sfc sbr sle m) (gc gu c0 cs : Int32) (gf gh cp cc : Nat → Int32) : ∃ gc' gf' gh' gu' c0' cs' cp' cc', f_X9_isConsistent hc hp hw hs hd ht rc rp rt rf rl bc bh bf bl sc sbc slc sfc gc gf gh gu c0 cs cp cc = some (1, gc', gf', gh', gu', c0', cs', cp', cc') := by
  obtain ⟨v, gf1, gh1, gu1, _, a, e⟩ := x9_most H R G gc gu gf gh
  obtain ⟨w, gf2, a', e'⟩ := x9_mostS H R G (nI q) gf1
  obtain ⟨c0', cs', cp', cc', ec⟩ := x9_chordsAgree H c0 cs cp cc
  unfold f_X9_isConsistent
  rw [e, z_bind]
  dsimp only
  rw [e', z_bind]
  dsimp only
  rw [if_pos (show nI v = nI w by rw [zMin_one a a']), ec, z_bind]
  dsimp only
  rw [if_neg z_n10, x9_swapsAgree H, z_bind, if_neg z_n10, show f_X9_coins sc = some sc from rfl, z_bind, show f_X9_coinsByAccounts sbc slc sfc = some ((((20 : Int32) + sbc) + slc) - sfc) from rfl, z_bind, if_pos S.2.2.2.2.1, x2_lie H, z_bind, if_neg z_n10]
  exact ⟨_, _, _, _, _, _, _, _, rfl⟩
theorem get_totals (R : zRR q T rc rn ri rb rp rt rf rl m) (H : zRH n P W L B D T hc hp hw hs hb hd ht m) (S : zRS d T sd sc sbc slc sfc sbr sle m) (th : Int32) : f_X9_hammerCount hc = some (nI n) ∧ f_X10_hammerCount m th = some (nI n, 0) ∧ f_X9_requestCount rc = some (nI q) ∧ f_X10_requestCount m th = some (nI q, 0) ∧ f_X10_coins m th = some (sc, 0) ∧ f_X9_coinsByAccounts sbc slc sfc = some sc ∧ f_X10_coinsByAccounts m th = some (sc, 0) ∧ f_X10_brokenTotal m th = some (sbr, 0) ∧ f_X10_lentTotal m th = some (sle, 0) ∧ f_X10_day m th = some (sd, 0) := by
  obtain ⟨s1, s2, s3, s4, s5, s6, s7⟩ := S
  have h2 := H.2.1
  have h3 := H.2.2.1
  have r2 := R.2.1
  have r3 := R.2.2.1
  have tot : ∀ x v, x < 2048 → m x = v → f_X10_total m th (nI x) = some (v, 0) := fun x v hx e => by
    unfold f_X10_total
    rw [if_pos (by rw [z_jin (by omega)]; simp; omega), z_cl (by omega), e]
  refine ⟨by rw [h2]; rfl, ?_, by rw [r2]; rfl, ?_, ?_, ?_, ?_, ?_, ?_, ?_⟩
  · unfold f_X10_hammerCount; rw [show f_X10_total m th 0 = _ from tot 0 _ (by omega) h3, z_bind]
  · unfold f_X10_requestCount; rw [show f_X10_total m th 4 = _ from tot 4 _ (by omega) r3, z_bind]
  · unfold f_X10_coins; rw [show f_X10_total m th 2 = _ from tot 2 _ (by omega) s4, z_bind]
  · unfold f_X9_coinsByAccounts; rw [← s5]
  · unfold f_X10_coinsByAccounts; rw [show f_X10_total m th 2 = _ from tot 2 _ (by omega) s4, z_bind]
  · unfold f_X10_brokenTotal; rw [show f_X10_total m th 6 = _ from tot 6 _ (by omega) s6, z_bind]
  · unfold f_X10_lentTotal; rw [show f_X10_total m th 7 = _ from tot 7 _ (by omega) s7, z_bind]
  · unfold f_X10_day; rw [show f_X10_total m th 1 = _ from tot 1 _ (by omega) (s3.trans s2.symm), z_bind]
end ZT

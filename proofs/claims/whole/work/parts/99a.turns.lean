/-! THE TURNS: what stays related -/
def lLn (l : List ztIt) (line : Nat → Int32) (many : Int32) : Prop := ztOk l = true ∧ many = nI (ztWs l) ∧ ∀ i, i < ztWs l → line i = ztAt l i
def lInv (T : Nat) (s : lS) : Prop := zRelS T s.2.1 s.2.2.2.2.2.2.2.2.1.1 ∧ zHist T s.2.2.2.1.1 s.2.2.2.1.2.1 s.2.2.2.1.2.2 s.2.2.2.2.2.2.2.2.1.2.2.2.2.1 s.2.2.2.2.2.2.2.2.1.2.2.2.2.2.1 ∧ zSnap T s.1.1 s.2.2.1 s.2.2.2.2.2.2.2.2.1.2.2.1 s.2.2.2.2.2.2.2.2.1.2.2.2.1 ∧ zTx s.2.2.2.2.2.2.1.1 s.2.2.2.2.2.2.1.2.1 s.2.2.2.2.2.2.2.2.1.2.2.2.2.2.2.2.2.2.1 s.2.2.2.2.2.2.2.2.1.2.2.2.2.2.2.2.2.2.2.1 ∧ s.1.2.1 = s.2.2.2.2.2.2.2.2.1.2.2.2.2.2.2.1 ∧ s.1.2.2 = s.2.2.2.2.2.2.2.2.1.2.2.2.2.2.2.2.1 ∧ s.2.2.2.2.2.2.2.2.1.2.2.2.2.2.2.2.2.2.2.2.2.2.2.2.2.1 = mL49 ∧ s.2.2.2.2.2.2.2.2.1.2.2.2.2.2.2.2.2.2.2.2.2.2.2.2.2.2.1 = mB11 ∧ lLn s.2.2.2.2.2.2.2.1 s.2.2.2.2.2.2.2.2.1.2.2.2.2.2.2.2.2.2.2.2.2.2.2.1 s.2.2.2.2.2.2.2.2.1.2.2.2.2.2.2.2.2.2.2.2.2.2.2.2.1
theorem lInv_mono {T T2 : Nat} {s : lS} (h : lInv T s) (hT : T ≤ T2) : lInv T2 s := by
  obtain ⟨IR, IY, IS, IX, IE, IF, IL, IB, IO⟩ := h
  exact ⟨zRelS_mono IR hT, zHist_mono IY hT, zSnap_mono IS hT, IX, IE, IF, IL, IB, IO⟩
theorem l_thr {c : Int32} : f_X10_thrown c = some c := rfl
theorem l_cmp (a : Int64) : lg_cmp a a = 0 := by unfold lg_cmp; simp
theorem l_std {α : Type} {c v : Int32} {out : Nat → Int64} {x : Option α} (h : c = 0 → out 0 = v.toInt64) : (if c = 0 then if jin 0 1 = true then if (lg_cmp (out (0 : Int32).toNatClampNeg) (v.toInt64)) = 0 then x else none else none else x) = x := by
  by_cases hc : c = 0
  · rw [if_pos hc, if_pos (show jin 0 1 = true by decide), if_pos (by rw [show (0 : Int32).toNatClampNeg = 0 from rfl, h hc]; exact l_cmp _)]
  · rw [if_neg hc]
theorem l_stdB {α : Type} {c v : Int32} {out : Nat → Int64} {x : Option α} (h : c = 0 → out 0 = v.toInt64) (hb : c = 0 → v = 0 ∨ v = 1) : (if c = 0 then if jin 0 1 = true then if v = 0 then if (lg_cmp (out (0 : Int32).toNatClampNeg) (0 : Int64)) = 0 then x else none else if (lg_cmp (out (0 : Int32).toNatClampNeg) (1 : Int64)) = 0 then x else none else none else x) = x := by
  by_cases hc : c = 0
  · rw [if_pos hc, if_pos (show jin 0 1 = true by decide), show (0 : Int32).toNatClampNeg = 0 from rfl, h hc]
    rcases hb hc with rfl | rfl
    · rw [if_pos rfl, if_pos (show lg_cmp (Int32.toInt64 0) 0 = 0 from l_cmp 0)]
    · rw [if_neg (by decide), if_pos (show lg_cmp (Int32.toInt64 1) 1 = 0 from l_cmp 1)]
  · rw [if_neg hc]
theorem lb_2 {q : Prop} {iq : Decidable q} {x y v u w c : Int32} (h : (@ite (Option (Int32 × Int32)) q iq (some (x, u)) (some (y, w))) = some (v, c)) (hx : x = 0 ∨ x = 1) (hy : y = 0 ∨ y = 1) : v = 0 ∨ v = 1 := by
  by_cases hq : q
  · have h := Option.some.inj (jifp h hq)
    have e : x = v := congrArg Prod.fst h
    rw [← e]; exact hx
  · have h := Option.some.inj (jifn h hq)
    have e : y = v := congrArg Prod.fst h
    rw [← e]; exact hy
theorem lb_1 {x v u c : Int32} (h : some (x, u) = some (v, c)) (hx : x = 0 ∨ x = 1) : v = 0 ∨ v = 1 := by
  have e : x = v := congrArg Prod.fst (Option.some.inj h)
  rw [← e]; exact hx
theorem lb_isLent {m : Nat → Int32} {th a v c : Int32} (h : f_X10_isLent m th a = some (v, c)) : c = 0 → v = 0 ∨ v = 1 := by
  intro _
  unfold f_X10_isLent at h
  obtain ⟨u1, g1, h⟩ := jbind h
  by_cases c1 : u1.2 = 0
  · exact lb_2 (jifp h c1) (Or.inr rfl) (Or.inl rfl)
  · exact lb_1 (jifn h c1) (Or.inl rfl)
theorem lb_isBooked {m : Nat → Int32} {th a a2 v c : Int32} (h : f_X10_isBooked m th a a2 = some (v, c)) : c = 0 → v = 0 ∨ v = 1 := by
  intro _
  unfold f_X10_isBooked at h
  obtain ⟨u1, g1, h⟩ := jbind h
  by_cases c1 : u1 = 0
  · obtain ⟨u5, g5, h⟩ := jbind (jifp h c1)
    exact lb_1 h (Or.inl rfl)
  · obtain ⟨u3, g3, h⟩ := jbind (jifn h c1)
    exact lb_2 h (Or.inr rfl) (Or.inl rfl)
theorem lb_fits {m : Nat → Int32} {th a a2 v c : Int32} (h : f_X10_fits m th a a2 = some (v, c)) : c = 0 → v = 0 ∨ v = 1 := by
  intro _
  unfold f_X10_fits at h
  obtain ⟨u1, g1, h⟩ := jbind h
  by_cases c1 : u1 = (-1)
  · obtain ⟨u15, g15, h⟩ := jbind (jifp h c1)
    by_cases c2 : u15.2 = 0
    · obtain ⟨u17, g17, h⟩ := jbind (jifp h c2)
      obtain ⟨u19, g19, h⟩ := jbind h
      exact lb_2 h (Or.inl rfl) (Or.inr rfl)
    · exact lb_1 (jifn h c2) (Or.inl rfl)
  · obtain ⟨u3, g3, h⟩ := jbind (jifn h c1)
    by_cases c2 : u3 = 0
    · obtain ⟨u9, g9, h⟩ := jbind (jifp h c2)
      by_cases c3 : u9.2 = 0
      · obtain ⟨u11, g11, h⟩ := jbind (jifp h c3)
        obtain ⟨u13, g13, h⟩ := jbind h
        exact lb_2 h (Or.inl rfl) (Or.inr rfl)
      · exact lb_1 (jifn h c3) (Or.inl rfl)
    · obtain ⟨u5, g5, h⟩ := jbind (jifn h c2)
      obtain ⟨u7, g7, h⟩ := jbind h
      exact lb_2 h (Or.inl rfl) (Or.inr rfl)
set_option maxHeartbeats 4000000 in
set_option maxRecDepth 100000 in
theorem p_0 {T : Nat} {s : lS} (I : lInv T s) (hT : T < 900000) (e1 : Int32) (e2 : Int32) : ∃ s9, lT_0 e1 e2 s = some s9 ∧ lInv (T + 465) s9 := by
  obtain ⟨IR, IY, IS, IX, IE, IF, IL, IB, IO⟩ := I
  obtain ⟨v, c, hc', hp', hw', hs', ht', yhs', ysp', yct', out', m', as', past', chg', h1, h2, h3, h4, h5⟩ := do_addHammer IR IY s.2.2.2.2.2.2.2.2.1.2.1 s.2.2.2.2.2.2.2.2.1.2.2.2.2.2.2.2.2.1 e1 e2 s.2.2.2.2.2.2.2.2.2.1
  apply Exists.intro
  apply And.intro
  · unfold lT_0 f_law_0
    rw [h1, z_bind, h2, z_bind]
    dsimp only
    rw [l_thr, z_bind, if_pos rfl, l_std h3]
    rfl
  · exact ⟨zRel_mono h4 (by omega), zHist_mono h5 (by omega), zSnap_mono IS (by omega), IX, IE, IF, IL, IB, IO⟩
set_option maxHeartbeats 4000000 in
set_option maxRecDepth 100000 in
theorem p_1 {T : Nat} {s : lS} (I : lInv T s) (hT : T < 900000) (e1 : Int32) (e2 : Int32) : ∃ s9, lT_1 e1 e2 s = some s9 ∧ lInv (T + 465) s9 := by
  obtain ⟨IR, IY, IS, IX, IE, IF, IL, IB, IO⟩ := I
  obtain ⟨v, c, hs', ht', yhs', ysp', yct', out', m', as', past', chg', h1, h2, h3, h4, h5⟩ := do_moveHammer IR IY s.2.2.2.2.2.2.2.2.1.2.1 s.2.2.2.2.2.2.2.2.1.2.2.2.2.2.2.2.2.1 e1 e2 s.2.2.2.2.2.2.2.2.2.1
  apply Exists.intro
  apply And.intro
  · unfold lT_1 f_law_1
    rw [h1, z_bind, h2, z_bind]
    dsimp only
    rw [l_thr, z_bind, if_pos rfl, l_std h3]
    rfl
  · exact ⟨zRel_mono h4 (by omega), zHist_mono h5 (by omega), zSnap_mono IS (by omega), IX, IE, IF, IL, IB, IO⟩
set_option maxHeartbeats 4000000 in
set_option maxRecDepth 100000 in
theorem p_2 {T : Nat} {s : lS} (I : lInv T s) (hT : T < 900000) (e1 : Int32) (e2 : Int32) (e3 : Int32) : ∃ s9, lT_2 e1 e2 e3 s = some s9 ∧ lInv (T + 465) s9 := by
  obtain ⟨IR, IY, IS, IX, IE, IF, IL, IB, IO⟩ := I
  obtain ⟨v, c, hs', ht', yhs', ysp', yct', out', m', as', past', chg', h1, h2, h3, h4, h5⟩ := do_swapPlaces IR IY s.2.2.2.2.2.2.2.2.1.2.1 s.2.2.2.2.2.2.2.2.1.2.2.2.2.2.2.2.2.1 e1 e2 e3 s.2.2.2.2.2.2.2.2.2.1
  apply Exists.intro
  apply And.intro
  · unfold lT_2 f_law_2
    rw [h1, z_bind, h2, z_bind]
    dsimp only
    rw [l_thr, z_bind, if_pos rfl, l_std h3]
    rfl
  · exact ⟨zRel_mono h4 (by omega), zHist_mono h5 (by omega), zSnap_mono IS (by omega), IX, IE, IF, IL, IB, IO⟩
set_option maxHeartbeats 4000000 in
set_option maxRecDepth 100000 in
theorem p_3 {T : Nat} {s : lS} (I : lInv T s) (hT : T < 900000) (e1 : Int32) (e2 : Int32) (e3 : Int32) (e4 : Int32) (e5 : Int32) : ∃ s9, lT_3 e1 e2 e3 e4 e5 s = some s9 ∧ lInv (T + 465) s9 := by
  obtain ⟨IR, IY, IS, IX, IE, IF, IL, IB, IO⟩ := I
  obtain ⟨v, c, rc', rn', ri', rb', rp', rt', rf', rl', yhs', ysp', yct', out', m', as', past', chg', h1, h2, h3, h4, h5⟩ := do_request IR IY (by omega) s.2.2.2.2.2.2.2.2.1.2.1 s.2.2.2.2.2.2.2.2.1.2.2.2.2.2.2.2.2.1 e1 e2 e3 e4 e5 s.2.2.2.2.2.2.2.2.2.1
  apply Exists.intro
  apply And.intro
  · unfold lT_3 f_law_3
    rw [h1, z_bind, h2, z_bind]
    dsimp only
    rw [l_thr, z_bind, if_pos rfl, l_std h3]
    rfl
  · exact ⟨zRel_mono h4 (by omega), zHist_mono h5 (by omega), zSnap_mono IS (by omega), IX, IE, IF, IL, IB, IO⟩
set_option maxHeartbeats 4000000 in
set_option maxRecDepth 100000 in
theorem p_4 {T : Nat} {s : lS} (I : lInv T s) (hT : T < 900000) (e1 : Int32) : ∃ s9, lT_4 e1 s = some s9 ∧ lInv (T + 465) s9 := by
  obtain ⟨IR, IY, IS, IX, IE, IF, IL, IB, IO⟩ := I
  obtain ⟨v, c, rc', ri', rb', rp', rt', rf', rl', yhs', ysp', yct', out', m', as', past', chg', h1, h2, h3, h4, h5⟩ := do_cancelRequest IR IY s.2.2.2.2.2.2.2.2.1.2.1 s.2.2.2.2.2.2.2.2.1.2.2.2.2.2.2.2.2.1 e1 s.2.2.2.2.2.2.2.2.2.1
  apply Exists.intro
  apply And.intro
  · unfold lT_4 f_law_4
    rw [h1, z_bind, h2, z_bind]
    dsimp only
    rw [l_thr, z_bind, if_pos rfl, l_std h3]
    rfl
  · exact ⟨zRel_mono h4 (by omega), zHist_mono h5 (by omega), zSnap_mono IS (by omega), IX, IE, IF, IL, IB, IO⟩
set_option maxHeartbeats 4000000 in
set_option maxRecDepth 100000 in
theorem p_5 {T : Nat} {s : lS} (I : lInv T s) (hT : T < 900000) (e1 : Int32) : ∃ s9, lT_5 e1 s = some s9 ∧ lInv (T + 465) s9 := by
  obtain ⟨IR, IY, IS, IX, IE, IF, IL, IB, IO⟩ := I
  obtain ⟨v, c, rc', ri', rb', rp', rt', rf', rl', bc', bh', bb', bf', bl', sc', sbc', yhs', ysp', yct', out', m', as', past', chg', h1, h2, h3, h4, h5⟩ := do_grant IR IY s.2.2.2.2.2.2.2.2.1.2.1 s.2.2.2.2.2.2.2.2.1.2.2.2.2.2.2.2.2.1 e1 s.2.2.2.2.2.2.2.2.2.1
  apply Exists.intro
  apply And.intro
  · unfold lT_5 f_law_5
    rw [h1, z_bind, h2, z_bind]
    dsimp only
    rw [l_thr, z_bind, if_pos rfl, l_std h3]
    rfl
  · exact ⟨zRel_mono h4 (by omega), zHist_mono h5 (by omega), zSnap_mono IS (by omega), IX, IE, IF, IL, IB, IO⟩
set_option maxHeartbeats 4000000 in
set_option maxRecDepth 100000 in
theorem p_6 {T : Nat} {s : lS} (I : lInv T s) (hT : T < 900000) : ∃ s9, lT_6  s = some s9 ∧ lInv (T + 465) s9 := by
  obtain ⟨IR, IY, IS, IX, IE, IF, IL, IB, IO⟩ := I
  obtain ⟨v, rc', ri', rb', rp', rt', rf', rl', bc', bh', bb', bf', bl', sc', sbc', yhs', ysp', yct', gc', gf', gh', gch', gu', m', as', past', chg', fit', giv', h1, h2, h3, h4⟩ := do_grantMost IR IY s.2.2.2.2.2.2.2.2.1.2.1 s.2.2.2.2.2.2.2.2.1.2.2.2.2.2.2.2.2.1 s.2.2.2.2.1.1 s.2.2.2.2.1.2.2.2.2 s.2.2.2.2.1.2.1 s.2.2.2.2.1.2.2.1 s.2.2.2.2.1.2.2.2.1 s.2.2.2.2.2.2.2.2.1.2.2.2.2.2.2.2.2.2.2.2.1 s.2.2.2.2.2.2.2.2.1.2.2.2.2.2.2.2.2.2.2.2.2.1
  apply Exists.intro
  apply And.intro
  · unfold lT_6 f_law_6
    rw [h1, z_inr, h2, z_bind]
    dsimp only
    rw [if_pos rfl]
    rfl
  · exact ⟨zRel_mono h3 (by omega), zHist_mono h4 (by omega), zSnap_mono IS (by omega), IX, IE, IF, IL, IB, IO⟩
set_option maxHeartbeats 4000000 in
set_option maxRecDepth 100000 in
theorem p_7 {T : Nat} {s : lS} (I : lInv T s) (hT : T < 900000) (e1 : Int32) (e2 : Int32) (e3 : Int32) : ∃ s9, lT_7 e1 e2 e3 s = some s9 ∧ lInv (T + 465) s9 := by
  obtain ⟨IR, IY, IS, IX, IE, IF, IL, IB, IO⟩ := I
  obtain ⟨v, c, hw', hs', ht', sc', slc', yhs', ysp', yct', out', m', as', past', chg', h1, h2, h3, h4, h5⟩ := do_giveBack IR IY s.2.2.2.2.2.2.2.2.1.2.1 s.2.2.2.2.2.2.2.2.1.2.2.2.2.2.2.2.2.1 e1 e2 e3 s.2.2.2.2.2.2.2.2.2.1
  apply Exists.intro
  apply And.intro
  · unfold lT_7 f_law_7
    rw [h1, z_bind, h2, z_bind]
    dsimp only
    rw [l_thr, z_bind, if_pos rfl, l_std h3]
    rfl
  · exact ⟨zRel_mono h4 (by omega), zHist_mono h5 (by omega), zSnap_mono IS (by omega), IX, IE, IF, IL, IB, IO⟩
set_option maxHeartbeats 4000000 in
set_option maxRecDepth 100000 in
theorem p_8 {T : Nat} {s : lS} (I : lInv T s) (hT : T < 900000) (e1 : Int32) : ∃ s9, lT_8 e1 s = some s9 ∧ lInv (T + 465) s9 := by
  obtain ⟨IR, IY, IS, IX, IE, IF, IL, IB, IO⟩ := I
  obtain ⟨v, c, hw', sc', sfc', yhs', ysp', yct', out', m', as', past', chg', h1, h2, h3, h4, h5⟩ := do_renewFace IR IY s.2.2.2.2.2.2.2.2.1.2.1 s.2.2.2.2.2.2.2.2.1.2.2.2.2.2.2.2.2.1 e1 s.2.2.2.2.2.2.2.2.2.1
  apply Exists.intro
  apply And.intro
  · unfold lT_8 f_law_8
    rw [h1, z_bind, h2, z_bind]
    dsimp only
    rw [l_thr, z_bind, if_pos rfl, l_std h3]
    rfl
  · exact ⟨zRel_mono h4 (by omega), zHist_mono h5 (by omega), zSnap_mono IS (by omega), IX, IE, IF, IL, IB, IO⟩
set_option maxHeartbeats 4000000 in
set_option maxRecDepth 100000 in
theorem p_9 {T : Nat} {s : lS} (I : lInv T s) (hT : T < 900000) (e1 : Int32) : ∃ s9, lT_9 e1 s = some s9 ∧ lInv (T + 465) s9 := by
  obtain ⟨IR, IY, IS, IX, IE, IF, IL, IB, IO⟩ := I
  obtain ⟨v, c, hs', hb', hd', ht', bc', bh', bb', bf', bl', sd', sbr', sle', yhs', ysp', yct', out', m', as', past', chg', h1, h2, h3, h4, h5⟩ := do_passDays IR IY (by omega) s.2.2.2.2.2.2.2.2.1.2.1 s.2.2.2.2.2.2.2.2.1.2.2.2.2.2.2.2.2.1 e1 s.2.2.2.2.2.2.2.2.2.1
  apply Exists.intro
  apply And.intro
  · unfold lT_9 f_law_9
    rw [h1, z_bind, h2, z_bind]
    dsimp only
    rw [l_thr, z_bind, if_pos rfl, l_std h3]
    rfl
  · exact ⟨zRel_mono h4 (by omega), zHist_mono h5 (by omega), zSnap_mono IS (by omega), IX, IE, IF, IL, IB, IO⟩
set_option maxHeartbeats 4000000 in
set_option maxRecDepth 100000 in
theorem p_10 {T : Nat} {s : lS} (I : lInv T s) (hT : T < 900000) : ∃ s9, lT_10  s = some s9 ∧ lInv (T + 465) s9 := by
  obtain ⟨IR, IY, IS, IX, IE, IF, IL, IB, IO⟩ := I
  obtain ⟨n, P, W, L, B, D, q, b, d, H, R, G, S⟩ := id IR
  obtain ⟨t1, t2, t3, t4, t5, t6, t7, t8, t9, t10⟩ := get_totals R H S s.2.2.2.2.2.2.2.2.1.2.2.2.2.2.2.2.2.1
  apply Exists.intro
  apply And.intro
  · unfold lT_10 f_law_10
    rw [t1, z_bind, t2, z_bind]
    dsimp only
    rw [if_pos rfl]
    rfl
  · exact ⟨zRelS_mono IR (by omega), zHist_mono IY (by omega), zSnap_mono IS (by omega), IX, IE, IF, IL, IB, IO⟩
set_option maxHeartbeats 4000000 in
set_option maxRecDepth 100000 in
theorem p_11 {T : Nat} {s : lS} (I : lInv T s) (hT : T < 900000) (e1 : Int32) : ∃ s9, lT_11 e1 s = some s9 ∧ lInv (T + 465) s9 := by
  obtain ⟨IR, IY, IS, IX, IE, IF, IL, IB, IO⟩ := I
  obtain ⟨n, P, W, L, B, D, q, b, d, H, R, G, S⟩ := id IR
  obtain ⟨v, c, out9, h1, h2, h3⟩ := get_pitch H s.2.2.2.2.2.2.2.2.1.2.2.2.2.2.2.2.2.1 e1 s.2.2.2.2.2.2.2.2.2.1
  apply Exists.intro
  apply And.intro
  · unfold lT_11 f_law_11
    rw [h1, z_bind, h2, z_bind]
    dsimp only
    rw [l_thr, z_bind, if_pos rfl, l_std h3]
    rfl
  · exact ⟨zRelS_mono IR (by omega), zHist_mono IY (by omega), zSnap_mono IS (by omega), IX, IE, IF, IL, IB, IO⟩
set_option maxHeartbeats 4000000 in
set_option maxRecDepth 100000 in
theorem p_12 {T : Nat} {s : lS} (I : lInv T s) (hT : T < 900000) (e1 : Int32) : ∃ s9, lT_12 e1 s = some s9 ∧ lInv (T + 465) s9 := by
  obtain ⟨IR, IY, IS, IX, IE, IF, IL, IB, IO⟩ := I
  obtain ⟨n, P, W, L, B, D, q, b, d, H, R, G, S⟩ := id IR
  obtain ⟨v, c, out9, h1, h2, h3⟩ := get_wear H s.2.2.2.2.2.2.2.2.1.2.2.2.2.2.2.2.2.1 e1 s.2.2.2.2.2.2.2.2.2.1
  apply Exists.intro
  apply And.intro
  · unfold lT_12 f_law_12
    rw [h1, z_bind, h2, z_bind]
    dsimp only
    rw [l_thr, z_bind, if_pos rfl, l_std h3]
    rfl
  · exact ⟨zRelS_mono IR (by omega), zHist_mono IY (by omega), zSnap_mono IS (by omega), IX, IE, IF, IL, IB, IO⟩
set_option maxHeartbeats 4000000 in
set_option maxRecDepth 100000 in
theorem p_13 {T : Nat} {s : lS} (I : lInv T s) (hT : T < 900000) (e1 : Int32) : ∃ s9, lT_13 e1 s = some s9 ∧ lInv (T + 465) s9 := by
  obtain ⟨IR, IY, IS, IX, IE, IF, IL, IB, IO⟩ := I
  obtain ⟨n, P, W, L, B, D, q, b, d, H, R, G, S⟩ := id IR
  obtain ⟨v, c, out9, h1, h2, h3⟩ := get_isLent H s.2.2.2.2.2.2.2.2.1.2.2.2.2.2.2.2.2.1 e1 s.2.2.2.2.2.2.2.2.2.1
  have hb : c = 0 → v = 0 ∨ v = 1 := lb_isLent h2
  apply Exists.intro
  apply And.intro
  · unfold lT_13 f_law_13
    rw [h1, z_bind, h2, z_bind]
    dsimp only
    rw [l_thr, z_bind, if_pos rfl, l_stdB h3 hb]
    rfl
  · exact ⟨zRelS_mono IR (by omega), zHist_mono IY (by omega), zSnap_mono IS (by omega), IX, IE, IF, IL, IB, IO⟩
set_option maxHeartbeats 4000000 in
set_option maxRecDepth 100000 in
theorem p_14 {T : Nat} {s : lS} (I : lInv T s) (hT : T < 900000) (e1 : Int32) : ∃ s9, lT_14 e1 s = some s9 ∧ lInv (T + 465) s9 := by
  obtain ⟨IR, IY, IS, IX, IE, IF, IL, IB, IO⟩ := I
  obtain ⟨n, P, W, L, B, D, q, b, d, H, R, G, S⟩ := id IR
  obtain ⟨v, c, out9, h1, h2, h3⟩ := get_borrower H s.2.2.2.2.2.2.2.2.1.2.2.2.2.2.2.2.2.1 e1 s.2.2.2.2.2.2.2.2.2.1
  apply Exists.intro
  apply And.intro
  · unfold lT_14 f_law_14
    rw [h1, z_bind, h2, z_bind]
    dsimp only
    rw [l_thr, z_bind, if_pos rfl, l_std h3]
    rfl
  · exact ⟨zRelS_mono IR (by omega), zHist_mono IY (by omega), zSnap_mono IS (by omega), IX, IE, IF, IL, IB, IO⟩
set_option maxHeartbeats 4000000 in
set_option maxRecDepth 100000 in
theorem p_15 {T : Nat} {s : lS} (I : lInv T s) (hT : T < 900000) (e1 : Int32) : ∃ s9, lT_15 e1 s = some s9 ∧ lInv (T + 465) s9 := by
  obtain ⟨IR, IY, IS, IX, IE, IF, IL, IB, IO⟩ := I
  obtain ⟨n, P, W, L, B, D, q, b, d, H, R, G, S⟩ := id IR
  obtain ⟨v, c, out9, h1, h2, h3⟩ := get_dueDay H s.2.2.2.2.2.2.2.2.1.2.2.2.2.2.2.2.2.1 e1 s.2.2.2.2.2.2.2.2.2.1
  apply Exists.intro
  apply And.intro
  · unfold lT_15 f_law_15
    rw [h1, z_bind, h2, z_bind]
    dsimp only
    rw [l_thr, z_bind, if_pos rfl, l_std h3]
    rfl
  · exact ⟨zRelS_mono IR (by omega), zHist_mono IY (by omega), zSnap_mono IS (by omega), IX, IE, IF, IL, IB, IO⟩
set_option maxHeartbeats 4000000 in
set_option maxRecDepth 100000 in
theorem p_16 {T : Nat} {s : lS} (I : lInv T s) (hT : T < 900000) (e1 : Int32) : ∃ s9, lT_16 e1 s = some s9 ∧ lInv (T + 465) s9 := by
  obtain ⟨IR, IY, IS, IX, IE, IF, IL, IB, IO⟩ := I
  obtain ⟨n, P, W, L, B, D, q, b, d, H, R, G, S⟩ := id IR
  obtain ⟨v, c, out9, h1, h2, h3⟩ := get_rackOf H s.2.2.2.2.2.2.2.2.1.2.2.2.2.2.2.2.2.1 e1 s.2.2.2.2.2.2.2.2.2.1
  apply Exists.intro
  apply And.intro
  · unfold lT_16 f_law_16
    rw [h1, z_bind, h2, z_bind]
    dsimp only
    rw [l_thr, z_bind, if_pos rfl, l_std h3]
    rfl
  · exact ⟨zRelS_mono IR (by omega), zHist_mono IY (by omega), zSnap_mono IS (by omega), IX, IE, IF, IL, IB, IO⟩
set_option maxHeartbeats 4000000 in
set_option maxRecDepth 100000 in
theorem p_17 {T : Nat} {s : lS} (I : lInv T s) (hT : T < 900000) (e1 : Int32) : ∃ s9, lT_17 e1 s = some s9 ∧ lInv (T + 465) s9 := by
  obtain ⟨IR, IY, IS, IX, IE, IF, IL, IB, IO⟩ := I
  obtain ⟨n, P, W, L, B, D, q, b, d, H, R, G, S⟩ := id IR
  obtain ⟨v, c, out9, h1, h2, h3⟩ := get_placeOf H s.2.2.2.2.2.2.2.2.1.2.2.2.2.2.2.2.2.1 e1 s.2.2.2.2.2.2.2.2.2.1
  apply Exists.intro
  apply And.intro
  · unfold lT_17 f_law_17
    rw [h1, z_bind, h2, z_bind]
    dsimp only
    rw [l_thr, z_bind, if_pos rfl, l_std h3]
    rfl
  · exact ⟨zRelS_mono IR (by omega), zHist_mono IY (by omega), zSnap_mono IS (by omega), IX, IE, IF, IL, IB, IO⟩
set_option maxHeartbeats 4000000 in
set_option maxRecDepth 100000 in
theorem p_18 {T : Nat} {s : lS} (I : lInv T s) (hT : T < 900000) (e1 : Int32) (e2 : Int32) : ∃ s9, lT_18 e1 e2 s = some s9 ∧ lInv (T + 465) s9 := by
  obtain ⟨IR, IY, IS, IX, IE, IF, IL, IB, IO⟩ := I
  obtain ⟨n, P, W, L, B, D, q, b, d, H, R, G, S⟩ := id IR
  obtain ⟨v, c, out9, h1, h2, h3⟩ := get_hammerAt H s.2.2.2.2.2.2.2.2.1.2.2.2.2.2.2.2.2.1 e1 e2 s.2.2.2.2.2.2.2.2.2.1
  apply Exists.intro
  apply And.intro
  · unfold lT_18 f_law_18
    rw [h1, z_bind, h2, z_bind]
    dsimp only
    rw [l_thr, z_bind, if_pos rfl, l_std h3]
    rfl
  · exact ⟨zRelS_mono IR (by omega), zHist_mono IY (by omega), zSnap_mono IS (by omega), IX, IE, IF, IL, IB, IO⟩
set_option maxHeartbeats 4000000 in
set_option maxRecDepth 100000 in
theorem p_19 {T : Nat} {s : lS} (I : lInv T s) (hT : T < 900000) (e1 : Int32) : ∃ s9, lT_19 e1 s = some s9 ∧ lInv (T + 465) s9 := by
  obtain ⟨IR, IY, IS, IX, IE, IF, IL, IB, IO⟩ := I
  obtain ⟨n, P, W, L, B, D, q, b, d, H, R, G, S⟩ := id IR
  obtain ⟨v, c, out9, h1, h2, h3⟩ := get_bookings H G s.2.2.2.2.2.2.2.2.1.2.2.2.2.2.2.2.2.1 e1 s.2.2.2.2.2.2.2.2.2.1
  apply Exists.intro
  apply And.intro
  · unfold lT_19 f_law_19
    rw [h1, z_bind, h2, z_bind]
    dsimp only
    rw [l_thr, z_bind, if_pos rfl, l_std h3]
    rfl
  · exact ⟨zRelS_mono IR (by omega), zHist_mono IY (by omega), zSnap_mono IS (by omega), IX, IE, IF, IL, IB, IO⟩
set_option maxHeartbeats 4000000 in
set_option maxRecDepth 100000 in
theorem p_20 {T : Nat} {s : lS} (I : lInv T s) (hT : T < 900000) (e1 : Int32) (e2 : Int32) : ∃ s9, lT_20 e1 e2 s = some s9 ∧ lInv (T + 465) s9 := by
  obtain ⟨IR, IY, IS, IX, IE, IF, IL, IB, IO⟩ := I
  obtain ⟨n, P, W, L, B, D, q, b, d, H, R, G, S⟩ := id IR
  obtain ⟨v, c, out9, h1, h2, h3⟩ := get_isBooked H G s.2.2.2.2.2.2.2.2.1.2.2.2.2.2.2.2.2.1 e1 e2 s.2.2.2.2.2.2.2.2.2.1
  have hb : c = 0 → v = 0 ∨ v = 1 := lb_isBooked h2
  apply Exists.intro
  apply And.intro
  · unfold lT_20 f_law_20
    rw [h1, z_bind, h2, z_bind]
    dsimp only
    rw [l_thr, z_bind, if_pos rfl, l_stdB h3 hb]
    rfl
  · exact ⟨zRelS_mono IR (by omega), zHist_mono IY (by omega), zSnap_mono IS (by omega), IX, IE, IF, IL, IB, IO⟩
set_option maxHeartbeats 4000000 in
set_option maxRecDepth 100000 in
theorem p_21 {T : Nat} {s : lS} (I : lInv T s) (hT : T < 900000) : ∃ s9, lT_21  s = some s9 ∧ lInv (T + 465) s9 := by
  obtain ⟨IR, IY, IS, IX, IE, IF, IL, IB, IO⟩ := I
  obtain ⟨n, P, W, L, B, D, q, b, d, H, R, G, S⟩ := id IR
  obtain ⟨t1, t2, t3, t4, t5, t6, t7, t8, t9, t10⟩ := get_totals R H S s.2.2.2.2.2.2.2.2.1.2.2.2.2.2.2.2.2.1
  apply Exists.intro
  apply And.intro
  · unfold lT_21 f_law_21
    rw [t3, z_bind, t4, z_bind]
    dsimp only
    rw [if_pos rfl]
    rfl
  · exact ⟨zRelS_mono IR (by omega), zHist_mono IY (by omega), zSnap_mono IS (by omega), IX, IE, IF, IL, IB, IO⟩
set_option maxHeartbeats 4000000 in
set_option maxRecDepth 100000 in
theorem p_22 {T : Nat} {s : lS} (I : lInv T s) (hT : T < 900000) (e1 : Int32) : ∃ s9, lT_22 e1 s = some s9 ∧ lInv (T + 465) s9 := by
  obtain ⟨IR, IY, IS, IX, IE, IF, IL, IB, IO⟩ := I
  obtain ⟨n, P, W, L, B, D, q, b, d, H, R, G, S⟩ := id IR
  obtain ⟨v, c, out9, h1, h2, h3⟩ := get_requestAt R s.2.2.2.2.2.2.2.2.1.2.2.2.2.2.2.2.2.1 e1 s.2.2.2.2.2.2.2.2.2.1
  apply Exists.intro
  apply And.intro
  · unfold lT_22 f_law_22
    rw [h1, z_bind, h2, z_bind]
    dsimp only
    rw [l_thr, z_bind, if_pos rfl, l_std h3]
    rfl
  · exact ⟨zRelS_mono IR (by omega), zHist_mono IY (by omega), zSnap_mono IS (by omega), IX, IE, IF, IL, IB, IO⟩
set_option maxHeartbeats 4000000 in
set_option maxRecDepth 100000 in
theorem p_23 {T : Nat} {s : lS} (I : lInv T s) (hT : T < 900000) (e1 : Int32) (e2 : Int32) : ∃ s9, lT_23 e1 e2 s = some s9 ∧ lInv (T + 465) s9 := by
  obtain ⟨IR, IY, IS, IX, IE, IF, IL, IB, IO⟩ := I
  obtain ⟨n, P, W, L, B, D, q, b, d, H, R, G, S⟩ := id IR
  obtain ⟨v, c, out9, h1, h2, h3⟩ := get_fits H R G s.2.2.2.2.2.2.2.2.1.2.2.2.2.2.2.2.2.1 e1 e2 s.2.2.2.2.2.2.2.2.2.1
  have hb : c = 0 → v = 0 ∨ v = 1 := lb_fits h2
  apply Exists.intro
  apply And.intro
  · unfold lT_23 f_law_23
    rw [h1, z_bind, h2, z_bind]
    dsimp only
    rw [l_thr, z_bind, if_pos rfl, l_stdB h3 hb]
    rfl
  · exact ⟨zRelS_mono IR (by omega), zHist_mono IY (by omega), zSnap_mono IS (by omega), IX, IE, IF, IL, IB, IO⟩
set_option maxHeartbeats 4000000 in
set_option maxRecDepth 100000 in
theorem p_24 {T : Nat} {s : lS} (I : lInv T s) (hT : T < 900000) (e1 : Int32) : ∃ s9, lT_24 e1 s = some s9 ∧ lInv (T + 465) s9 := by
  obtain ⟨IR, IY, IS, IX, IE, IF, IL, IB, IO⟩ := I
  obtain ⟨n, P, W, L, B, D, q, b, d, H, R, G, S⟩ := id IR
  obtain ⟨v, c, out9, h1, h2, h3⟩ := get_best H R G s.2.2.2.2.2.2.2.2.1.2.2.2.2.2.2.2.2.1 e1 s.2.2.2.2.2.2.2.2.2.1
  apply Exists.intro
  apply And.intro
  · unfold lT_24 f_law_24
    rw [h1, z_bind, h2, z_bind]
    dsimp only
    rw [l_thr, z_bind, if_pos rfl, l_std h3]
    rfl
  · exact ⟨zRelS_mono IR (by omega), zHist_mono IY (by omega), zSnap_mono IS (by omega), IX, IE, IF, IL, IB, IO⟩
set_option maxHeartbeats 4000000 in
set_option maxRecDepth 100000 in
theorem p_25 {T : Nat} {s : lS} (I : lInv T s) (hT : T < 900000) : ∃ s9, lT_25  s = some s9 ∧ lInv (T + 465) s9 := by
  obtain ⟨IR, IY, IS, IX, IE, IF, IL, IB, IO⟩ := I
  obtain ⟨n, P, W, L, B, D, q, b, d, H, R, G, S⟩ := id IR
  obtain ⟨v, gc', gf', gh', gu', fit', h1, h2⟩ := get_most H R G s.2.2.2.2.2.2.2.2.1.2.2.2.2.2.2.2.2.1 s.2.2.2.2.1.1 s.2.2.2.2.1.2.2.2.2 s.2.2.2.2.1.2.1 s.2.2.2.2.1.2.2.1 s.2.2.2.2.2.2.2.2.1.2.2.2.2.2.2.2.2.2.2.2.1
  apply Exists.intro
  apply And.intro
  · unfold lT_25 f_law_25
    rw [h1, z_bind, h2, z_bind]
    dsimp only
    rw [if_pos rfl]
    rfl
  · exact ⟨zRelS_mono IR (by omega), zHist_mono IY (by omega), zSnap_mono IS (by omega), IX, IE, IF, IL, IB, IO⟩
set_option maxHeartbeats 4000000 in
set_option maxRecDepth 100000 in
theorem p_26 {T : Nat} {s : lS} (I : lInv T s) (hT : T < 900000) : ∃ s9, lT_26  s = some s9 ∧ lInv (T + 465) s9 := by
  obtain ⟨IR, IY, IS, IX, IE, IF, IL, IB, IO⟩ := I
  obtain ⟨n, P, W, L, B, D, q, b, d, H, R, G, S⟩ := id IR
  obtain ⟨v, gc', gf', fit', h1, h2⟩ := get_mostS H R G s.2.2.2.2.2.2.2.2.1.2.2.2.2.2.2.2.2.1 s.2.2.2.2.1.1 s.2.2.2.2.1.2.1 s.2.2.2.2.2.2.2.2.1.2.2.2.2.2.2.2.2.2.2.2.1
  apply Exists.intro
  apply And.intro
  · unfold lT_26 f_law_26
    rw [h1, z_bind, h2, z_bind]
    dsimp only
    rw [if_pos rfl]
    rfl
  · exact ⟨zRelS_mono IR (by omega), zHist_mono IY (by omega), zSnap_mono IS (by omega), IX, IE, IF, IL, IB, IO⟩
set_option maxHeartbeats 4000000 in
set_option maxRecDepth 100000 in
theorem p_27 {T : Nat} {s : lS} (I : lInv T s) (hT : T < 900000) (e1 : Int32) (e2 : Int32) : ∃ s9, lT_27 e1 e2 s = some s9 ∧ lInv (T + 465) s9 := by
  obtain ⟨IR, IY, IS, IX, IE, IF, IL, IB, IO⟩ := I
  obtain ⟨n, P, W, L, B, D, q, b, d, H, R, G, S⟩ := id IR
  obtain ⟨v, c, out9, h1, h2, h3⟩ := get_loudness H s.2.2.2.2.2.2.2.2.1.2.2.2.2.2.2.2.2.1 e1 e2 s.2.2.2.2.2.2.2.2.2.1
  apply Exists.intro
  apply And.intro
  · unfold lT_27 f_law_27
    rw [h1, z_bind, h2, z_bind]
    dsimp only
    rw [l_thr, z_bind, if_pos rfl, l_std h3]
    rfl
  · exact ⟨zRelS_mono IR (by omega), zHist_mono IY (by omega), zSnap_mono IS (by omega), IX, IE, IF, IL, IB, IO⟩
set_option maxHeartbeats 4000000 in
set_option maxRecDepth 100000 in
theorem p_28 {T : Nat} {s : lS} (I : lInv T s) (hT : T < 900000) (e1 : Int32) : ∃ s9, lT_28 e1 s = some s9 ∧ lInv (T + 465) s9 := by
  obtain ⟨IR, IY, IS, IX, IE, IF, IL, IB, IO⟩ := I
  obtain ⟨n, P, W, L, B, D, q, b, d, H, R, G, S⟩ := id IR
  obtain ⟨v, c, out9, h1, h2, h3⟩ := get_loudest H s.2.2.2.2.2.2.2.2.1.2.2.2.2.2.2.2.2.1 e1 s.2.2.2.2.2.2.2.2.2.1
  apply Exists.intro
  apply And.intro
  · unfold lT_28 f_law_28
    rw [h1, z_bind, h2, z_bind]
    dsimp only
    rw [l_thr, z_bind, if_pos rfl, l_std h3]
    rfl
  · exact ⟨zRelS_mono IR (by omega), zHist_mono IY (by omega), zSnap_mono IS (by omega), IX, IE, IF, IL, IB, IO⟩
set_option maxHeartbeats 4000000 in
set_option maxRecDepth 100000 in
theorem p_29 {T : Nat} {s : lS} (I : lInv T s) (hT : T < 900000) (e1 : Int32) (e2 : Int32) : ∃ s9, lT_29 e1 e2 s = some s9 ∧ lInv (T + 465) s9 := by
  obtain ⟨IR, IY, IS, IX, IE, IF, IL, IB, IO⟩ := I
  obtain ⟨n, P, W, L, B, D, q, b, d, H, R, G, S⟩ := id IR
  obtain ⟨v, c, out9, h1, h2, h3⟩ := get_consonance H s.2.2.2.2.2.2.2.2.1.2.2.2.2.2.2.2.2.1 e1 e2 s.2.2.2.2.2.2.2.2.2.1
  apply Exists.intro
  apply And.intro
  · unfold lT_29 f_law_29
    rw [h1, z_bind, h2, z_bind]
    dsimp only
    rw [l_thr, z_bind, if_pos rfl, l_std h3]
    rfl
  · exact ⟨zRelS_mono IR (by omega), zHist_mono IY (by omega), zSnap_mono IS (by omega), IX, IE, IF, IL, IB, IO⟩
set_option maxHeartbeats 4000000 in
set_option maxRecDepth 100000 in
theorem p_30 {T : Nat} {s : lS} (I : lInv T s) (hT : T < 900000) (e1 : Int32) : ∃ s9, lT_30 e1 s = some s9 ∧ lInv (T + 465) s9 := by
  obtain ⟨IR, IY, IS, IX, IE, IF, IL, IB, IO⟩ := I
  obtain ⟨n, P, W, L, B, D, q, b, d, H, R, G, S⟩ := id IR
  obtain ⟨v, c, c0', c1', cp', cc', out', pr', h1, h2, h3⟩ := get_chord H s.2.2.2.2.2.2.2.2.1.2.2.2.2.2.2.2.2.1 s.2.2.2.2.2.1.1 s.2.2.2.2.2.1.2.1 s.2.2.2.2.2.1.2.2.1 s.2.2.2.2.2.1.2.2.2 s.2.2.2.2.2.2.2.2.1.2.2.2.2.2.2.2.2.2.2.2.2.2.1 e1 s.2.2.2.2.2.2.2.2.2.1
  apply Exists.intro
  apply And.intro
  · unfold lT_30 f_law_30
    rw [h1, z_bind, h2, z_bind]
    dsimp only
    rw [l_thr, z_bind, if_pos rfl, l_std h3]
    rfl
  · exact ⟨zRelS_mono IR (by omega), zHist_mono IY (by omega), zSnap_mono IS (by omega), IX, IE, IF, IL, IB, IO⟩
set_option maxHeartbeats 4000000 in
set_option maxRecDepth 100000 in
theorem p_31 {T : Nat} {s : lS} (I : lInv T s) (hT : T < 900000) (e1 : Int32) : ∃ s9, lT_31 e1 s = some s9 ∧ lInv (T + 465) s9 := by
  obtain ⟨IR, IY, IS, IX, IE, IF, IL, IB, IO⟩ := I
  obtain ⟨n, P, W, L, B, D, q, b, d, H, R, G, S⟩ := id IR
  obtain ⟨v, c, c0', cp', cc', out', pr', h1, h2, h3⟩ := get_chordS H s.2.2.2.2.2.2.2.2.1.2.2.2.2.2.2.2.2.1 s.2.2.2.2.2.1.1 s.2.2.2.2.2.1.2.2.1 s.2.2.2.2.2.1.2.2.2 s.2.2.2.2.2.2.2.2.1.2.2.2.2.2.2.2.2.2.2.2.2.2.1 e1 s.2.2.2.2.2.2.2.2.2.1
  apply Exists.intro
  apply And.intro
  · unfold lT_31 f_law_31
    rw [h1, z_bind, h2, z_bind]
    dsimp only
    rw [l_thr, z_bind, if_pos rfl, l_std h3]
    rfl
  · exact ⟨zRelS_mono IR (by omega), zHist_mono IY (by omega), zSnap_mono IS (by omega), IX, IE, IF, IL, IB, IO⟩
set_option maxHeartbeats 4000000 in
set_option maxRecDepth 100000 in
theorem p_32 {T : Nat} {s : lS} (I : lInv T s) (hT : T < 900000) (e1 : Int32) : ∃ s9, lT_32 e1 s = some s9 ∧ lInv (T + 465) s9 := by
  obtain ⟨IR, IY, IS, IX, IE, IF, IL, IB, IO⟩ := I
  obtain ⟨n, P, W, L, B, D, q, b, d, H, R, G, S⟩ := id IR
  obtain ⟨v, c, out9, h1, h2, h3⟩ := get_swaps H s.2.2.2.2.2.2.2.2.1.2.2.2.2.2.2.2.2.1 e1 s.2.2.2.2.2.2.2.2.2.1
  apply Exists.intro
  apply And.intro
  · unfold lT_32 f_law_32
    rw [h1, z_bind, h2, z_bind]
    dsimp only
    rw [l_thr, z_bind, if_pos rfl, l_std h3]
    rfl
  · exact ⟨zRelS_mono IR (by omega), zHist_mono IY (by omega), zSnap_mono IS (by omega), IX, IE, IF, IL, IB, IO⟩
set_option maxHeartbeats 4000000 in
set_option maxRecDepth 100000 in
theorem p_33 {T : Nat} {s : lS} (I : lInv T s) (hT : T < 900000) (e1 : Int32) : ∃ s9, lT_33 e1 s = some s9 ∧ lInv (T + 465) s9 := by
  obtain ⟨IR, IY, IS, IX, IE, IF, IL, IB, IO⟩ := I
  obtain ⟨n, P, W, L, B, D, q, b, d, H, R, G, S⟩ := id IR
  obtain ⟨v, c, out9, h1, h2, h3⟩ := get_swapsC H s.2.2.2.2.2.2.2.2.1.2.2.2.2.2.2.2.2.1 e1 s.2.2.2.2.2.2.2.2.2.1
  apply Exists.intro
  apply And.intro
  · unfold lT_33 f_law_33
    rw [h1, z_bind, h2, z_bind]
    dsimp only
    rw [l_thr, z_bind, if_pos rfl, l_std h3]
    rfl
  · exact ⟨zRelS_mono IR (by omega), zHist_mono IY (by omega), zSnap_mono IS (by omega), IX, IE, IF, IL, IB, IO⟩
set_option maxHeartbeats 4000000 in
set_option maxRecDepth 100000 in
theorem p_34 {T : Nat} {s : lS} (I : lInv T s) (hT : T < 900000) (e1 : Int32) : ∃ s9, lT_34 e1 s = some s9 ∧ lInv (T + 465) s9 := by
  obtain ⟨IR, IY, IS, IX, IE, IF, IL, IB, IO⟩ := I
  obtain ⟨n, P, W, L, B, D, q, b, d, H, R, G, S⟩ := id IR
  obtain ⟨v, c, out9, h1, h2, h3⟩ := get_byWear H s.2.2.2.2.2.2.2.2.1.2.2.2.2.2.2.2.2.1 e1 s.2.2.2.2.2.2.2.2.2.1
  apply Exists.intro
  apply And.intro
  · unfold lT_34 f_law_34
    rw [h1, z_bind, h2, z_bind]
    dsimp only
    rw [l_thr, z_bind, if_pos rfl, l_std h3]
    rfl
  · exact ⟨zRelS_mono IR (by omega), zHist_mono IY (by omega), zSnap_mono IS (by omega), IX, IE, IF, IL, IB, IO⟩
set_option maxHeartbeats 4000000 in
set_option maxRecDepth 100000 in
theorem p_35 {T : Nat} {s : lS} (I : lInv T s) (hT : T < 900000) : ∃ s9, lT_35  s = some s9 ∧ lInv (T + 465) s9 := by
  obtain ⟨IR, IY, IS, IX, IE, IF, IL, IB, IO⟩ := I
  obtain ⟨n, P, W, L, B, D, q, b, d, H, R, G, S⟩ := id IR
  obtain ⟨t1, t2, t3, t4, t5, t6, t7, t8, t9, t10⟩ := get_totals R H S s.2.2.2.2.2.2.2.2.1.2.2.2.2.2.2.2.2.1
  apply Exists.intro
  apply And.intro
  · unfold lT_35 f_law_35
    rw [show f_X9_coins s.2.1.2.2.2.2.2.2.2.2.2.2.2.2.2.2.2.2.2.2.2.2.2.1 = some s.2.1.2.2.2.2.2.2.2.2.2.2.2.2.2.2.2.2.2.2.2.2.2.1 from rfl, z_bind, t5, z_bind]
    dsimp only
    rw [if_pos rfl]
    rfl
  · exact ⟨zRelS_mono IR (by omega), zHist_mono IY (by omega), zSnap_mono IS (by omega), IX, IE, IF, IL, IB, IO⟩
set_option maxHeartbeats 4000000 in
set_option maxRecDepth 100000 in
theorem p_36 {T : Nat} {s : lS} (I : lInv T s) (hT : T < 900000) : ∃ s9, lT_36  s = some s9 ∧ lInv (T + 465) s9 := by
  obtain ⟨IR, IY, IS, IX, IE, IF, IL, IB, IO⟩ := I
  obtain ⟨n, P, W, L, B, D, q, b, d, H, R, G, S⟩ := id IR
  obtain ⟨t1, t2, t3, t4, t5, t6, t7, t8, t9, t10⟩ := get_totals R H S s.2.2.2.2.2.2.2.2.1.2.2.2.2.2.2.2.2.1
  apply Exists.intro
  apply And.intro
  · unfold lT_36 f_law_36
    rw [t6, z_bind, t7, z_bind]
    dsimp only
    rw [if_pos rfl]
    rfl
  · exact ⟨zRelS_mono IR (by omega), zHist_mono IY (by omega), zSnap_mono IS (by omega), IX, IE, IF, IL, IB, IO⟩
set_option maxHeartbeats 4000000 in
set_option maxRecDepth 100000 in
theorem p_37 {T : Nat} {s : lS} (I : lInv T s) (hT : T < 900000) : ∃ s9, lT_37  s = some s9 ∧ lInv (T + 465) s9 := by
  obtain ⟨IR, IY, IS, IX, IE, IF, IL, IB, IO⟩ := I
  obtain ⟨n, P, W, L, B, D, q, b, d, H, R, G, S⟩ := id IR
  obtain ⟨t1, t2, t3, t4, t5, t6, t7, t8, t9, t10⟩ := get_totals R H S s.2.2.2.2.2.2.2.2.1.2.2.2.2.2.2.2.2.1
  apply Exists.intro
  apply And.intro
  · unfold lT_37 f_law_37
    rw [show f_X9_brokenTotal s.2.1.2.2.2.2.2.2.2.2.2.2.2.2.2.2.2.2.2.2.2.2.2.2.2.2.2.1 = some s.2.1.2.2.2.2.2.2.2.2.2.2.2.2.2.2.2.2.2.2.2.2.2.2.2.2.2.1 from rfl, z_bind, t8, z_bind]
    dsimp only
    rw [if_pos rfl]
    rfl
  · exact ⟨zRelS_mono IR (by omega), zHist_mono IY (by omega), zSnap_mono IS (by omega), IX, IE, IF, IL, IB, IO⟩
set_option maxHeartbeats 4000000 in
set_option maxRecDepth 100000 in
theorem p_38 {T : Nat} {s : lS} (I : lInv T s) (hT : T < 900000) : ∃ s9, lT_38  s = some s9 ∧ lInv (T + 465) s9 := by
  obtain ⟨IR, IY, IS, IX, IE, IF, IL, IB, IO⟩ := I
  obtain ⟨n, P, W, L, B, D, q, b, d, H, R, G, S⟩ := id IR
  obtain ⟨t1, t2, t3, t4, t5, t6, t7, t8, t9, t10⟩ := get_totals R H S s.2.2.2.2.2.2.2.2.1.2.2.2.2.2.2.2.2.1
  apply Exists.intro
  apply And.intro
  · unfold lT_38 f_law_38
    rw [show f_X9_lentTotal s.2.1.2.2.2.2.2.2.2.2.2.2.2.2.2.2.2.2.2.2.2.2.2.2.2.2.2.2 = some s.2.1.2.2.2.2.2.2.2.2.2.2.2.2.2.2.2.2.2.2.2.2.2.2.2.2.2.2 from rfl, z_bind, t9, z_bind]
    dsimp only
    rw [if_pos rfl]
    rfl
  · exact ⟨zRelS_mono IR (by omega), zHist_mono IY (by omega), zSnap_mono IS (by omega), IX, IE, IF, IL, IB, IO⟩
set_option maxHeartbeats 4000000 in
set_option maxRecDepth 100000 in
theorem p_39 {T : Nat} {s : lS} (I : lInv T s) (hT : T < 900000) : ∃ s9, lT_39  s = some s9 ∧ lInv (T + 465) s9 := by
  obtain ⟨IR, IY, IS, IX, IE, IF, IL, IB, IO⟩ := I
  obtain ⟨n, P, W, L, B, D, q, b, d, H, R, G, S⟩ := id IR
  obtain ⟨t1, t2, t3, t4, t5, t6, t7, t8, t9, t10⟩ := get_totals R H S s.2.2.2.2.2.2.2.2.1.2.2.2.2.2.2.2.2.1
  apply Exists.intro
  apply And.intro
  · unfold lT_39 f_law_39
    rw [show f_X9_day s.2.1.2.2.2.2.2.2.2.2.2.2.2.2.2.2.2.2.2.2.2.2.1 = some s.2.1.2.2.2.2.2.2.2.2.2.2.2.2.2.2.2.2.2.2.2.2.1 from rfl, z_bind, t10, z_bind]
    dsimp only
    rw [if_pos rfl]
    rfl
  · exact ⟨zRelS_mono IR (by omega), zHist_mono IY (by omega), zSnap_mono IS (by omega), IX, IE, IF, IL, IB, IO⟩
set_option maxHeartbeats 4000000 in
set_option maxRecDepth 100000 in
theorem p_42 {T : Nat} {s : lS} (I : lInv T s) (hT : T < 900000) : ∃ s9, lT_42  s = some s9 ∧ lInv (T + 465) s9 := by
  obtain ⟨IR, IY, IS, IX, IE, IF, IL, IB, IO⟩ := I
  obtain ⟨n, P, W, L, B, D, q, b, d, H, R, G, S⟩ := id IR
  obtain ⟨gc', gf', gh', gu', c0', cs', cp', cc', h1⟩ := get_consistent H R G S s.2.2.2.2.1.1 s.2.2.2.2.1.2.2.2.2 s.2.2.2.2.2.1.1 s.2.2.2.2.2.1.2.1 s.2.2.2.2.1.2.1 s.2.2.2.2.1.2.2.1 s.2.2.2.2.2.1.2.2.1 s.2.2.2.2.2.1.2.2.2
  apply Exists.intro
  apply And.intro
  · unfold lT_42 f_law_42
    rw [h1, z_bind, show f_X10_isConsistent s.2.2.2.2.2.2.2.2.1.2.2.2.2.2.2.2.2.1 = some (1, 0) from rfl, z_bind]
    dsimp only
    rw [if_pos rfl]
    rfl
  · exact ⟨zRelS_mono IR (by omega), zHist_mono IY (by omega), zSnap_mono IS (by omega), IX, IE, IF, IL, IB, IO⟩
set_option maxHeartbeats 4000000 in
set_option maxRecDepth 100000 in
theorem p_46 {T : Nat} {s : lS} (I : lInv T s) (hT : T < 900000) (e1 : Int32) : ∃ s9, lT_46 e1 s = some s9 ∧ lInv (T + 465) s9 := by
  obtain ⟨IR, IY, IS, IX, IE, IF, IL, IB, IO⟩ := I
  obtain ⟨v, c, pt', pl', out', inp', many', h1, h2, h3, h4⟩ := do_type IX s.2.2.2.2.2.2.2.2.1.2.2.2.2.2.2.2.2.1 ((e1.toUInt32 % 65536).toInt32) s.2.2.2.2.2.2.2.2.2.1
  apply Exists.intro
  apply And.intro
  · unfold lT_46 f_law_46
    rw [h1, z_bind, h2, z_bind]
    dsimp only
    rw [l_thr, z_bind, if_pos rfl, l_std h3]
    rfl
  · exact ⟨zRelS_mono IR (by omega), zHist_mono IY (by omega), zSnap_mono IS (by omega), h4, IE, IF, IL, IB, IO⟩
set_option maxHeartbeats 4000000 in
set_option maxRecDepth 100000 in
theorem p_48 {T : Nat} {s : lS} (I : lInv T s) (hT : T < 900000) : ∃ s9, lT_48  s = some s9 ∧ lInv (T + 465) s9 := by
  obtain ⟨IR, IY, IS, IX, IE, IF, IL, IB, IO⟩ := I
  obtain ⟨v, c, out9, h1, h2, h3⟩ := get_errorPosition s.1.2.1 s.2.2.2.2.2.2.2.2.1.2.2.2.2.2.2.2.2.1 s.2.2.2.2.2.2.2.2.2.1
  rw [IE] at h2
  apply Exists.intro
  apply And.intro
  · unfold lT_48 f_law_48
    rw [h1, z_bind, h2, z_bind]
    dsimp only
    rw [l_thr, z_bind, if_pos rfl, l_std h3]
    rfl
  · exact ⟨zRelS_mono IR (by omega), zHist_mono IY (by omega), zSnap_mono IS (by omega), IX, IE, IF, IL, IB, IO⟩
set_option maxHeartbeats 4000000 in
set_option maxRecDepth 100000 in
theorem p_49 {T : Nat} {s : lS} (I : lInv T s) (hT : T < 900000) : ∃ s9, lT_49  s = some s9 ∧ lInv (T + 465) s9 := by
  obtain ⟨IR, IY, IS, IX, IE, IF, IL, IB, IO⟩ := I
  obtain ⟨v, c, out9, h1, h2, h3⟩ := get_failedCommand s.1.2.2 s.2.2.2.2.2.2.2.2.1.2.2.2.2.2.2.2.2.1 s.2.2.2.2.2.2.2.2.2.1
  rw [IF] at h2
  apply Exists.intro
  apply And.intro
  · unfold lT_49 f_law_49
    rw [h1, z_bind, h2, z_bind]
    dsimp only
    rw [l_thr, z_bind, if_pos rfl, l_std h3]
    rfl
  · exact ⟨zRelS_mono IR (by omega), zHist_mono IY (by omega), zSnap_mono IS (by omega), IX, IE, IF, IL, IB, IO⟩
set_option maxHeartbeats 4000000 in
set_option maxRecDepth 100000 in
theorem p_50 {T : Nat} {s : lS} (I : lInv T s) (hT : T < 900000) : ∃ s9, lT_50  s = some s9 ∧ lInv (T + 465) s9 := by
  obtain ⟨IR, IY, IS, IX, IE, IF, IL, IB, IO⟩ := I
  obtain ⟨v, c, hc', hp', hw', hs', hb', hd', ht', rc', rn', ri', rb', rp', rt', rf', rl', bc', bh', bb', bf', bl', sd', sc', sbc', slc', sfc', sbr', sle', ysp', yct', out', m', chg', h1, h2, h3, h4, h5⟩ := do_undo IR IY s.2.2.2.2.2.2.2.2.1.2.2.2.2.2.2.2.2.1 s.2.2.2.2.2.2.2.2.2.1
  apply Exists.intro
  apply And.intro
  · unfold lT_50 f_law_50
    rw [h1, z_bind, h2, z_bind]
    dsimp only
    rw [l_thr, z_bind, if_pos rfl, l_std h3]
    rfl
  · exact ⟨zRel_mono h4 (by omega), zHist_mono h5 (by omega), zSnap_mono IS (by omega), IX, IE, IF, IL, IB, IO⟩
set_option maxHeartbeats 4000000 in
set_option maxRecDepth 100000 in
theorem p_51 {T : Nat} {s : lS} (I : lInv T s) (hT : T < 900000) : ∃ s9, lT_51  s = some s9 ∧ lInv (T + 465) s9 := by
  obtain ⟨IR, IY, IS, IX, IE, IF, IL, IB, IO⟩ := I
  obtain ⟨hc', hp', hw', hs', hb', hd', ht', rc', rn', ri', rb', rp', rt', rf', rl', bc', bh', bb', bf', bl', sd', sc', sbc', slc', sfc', sbr', sle', sv', h1, h2, h3⟩ := do_save s.1.1 s.2.2.2.2.2.2.2.2.1.2.2.2.1 s.2.2.2.2.2.2.2.2.1.2.2.2.2.2.2.2.2.1 s.2.2.2.2.2.2.2.2.1.2.2.1 s.2.2.1.1 s.2.2.1.2.2.2.2.2.2.2.1 s.2.2.1.2.2.2.2.2.2.2.2.1 s.2.2.1.2.2.2.2.2.2.2.2.2.2.2.2.2.2.2.1 s.2.2.1.2.2.2.2.2.2.2.2.2.2.2.2.2.2.2.2.2.2.2.2.1 s.2.2.1.2.2.2.2.2.2.2.2.2.2.2.2.2.2.2.2.2.2.2.2.2.1 s.2.2.1.2.2.2.2.2.2.2.2.2.2.2.2.2.2.2.2.2.2.2.2.2.2.1 s.2.2.1.2.2.2.2.2.2.2.2.2.2.2.2.2.2.2.2.2.2.2.2.2.2.2.1 s.2.2.1.2.2.2.2.2.2.2.2.2.2.2.2.2.2.2.2.2.2.2.2.2.2.2.2.1 s.2.2.1.2.2.2.2.2.2.2.2.2.2.2.2.2.2.2.2.2.2.2.2.2.2.2.2.2.1 s.2.2.1.2.2.2.2.2.2.2.2.2.2.2.2.2.2.2.2.2.2.2.2.2.2.2.2.2.2 s.2.2.1.2.1 s.2.2.1.2.2.1 s.2.2.1.2.2.2.1 s.2.2.1.2.2.2.2.1 s.2.2.1.2.2.2.2.2.1 s.2.2.1.2.2.2.2.2.2.1 s.2.2.1.2.2.2.2.2.2.2.2.2.1 s.2.2.1.2.2.2.2.2.2.2.2.2.2.1 s.2.2.1.2.2.2.2.2.2.2.2.2.2.2.1 s.2.2.1.2.2.2.2.2.2.2.2.2.2.2.2.1 s.2.2.1.2.2.2.2.2.2.2.2.2.2.2.2.2.1 s.2.2.1.2.2.2.2.2.2.2.2.2.2.2.2.2.2.1 s.2.2.1.2.2.2.2.2.2.2.2.2.2.2.2.2.2.2.2.1 s.2.2.1.2.2.2.2.2.2.2.2.2.2.2.2.2.2.2.2.2.1 s.2.2.1.2.2.2.2.2.2.2.2.2.2.2.2.2.2.2.2.2.2.1 s.2.2.1.2.2.2.2.2.2.2.2.2.2.2.2.2.2.2.2.2.2.2.1 IR
  apply Exists.intro
  apply And.intro
  · unfold lT_51 f_law_51
    rw [h1, z_bind, h2, z_bind]
    dsimp only
    rw [if_pos rfl]
    rfl
  · exact ⟨zRelS_mono IR (by omega), zHist_mono IY (by omega), ⟨rfl, fun _ => zRel_mono h3 (by omega)⟩, IX, IE, IF, IL, IB, IO⟩
set_option maxHeartbeats 4000000 in
set_option maxRecDepth 100000 in
theorem p_52 {T : Nat} {s : lS} (I : lInv T s) (hT : T < 900000) : ∃ s9, lT_52  s = some s9 ∧ lInv (T + 465) s9 := by
  obtain ⟨IR, IY, IS, IX, IE, IF, IL, IB, IO⟩ := I
  obtain ⟨v, c, hc', hp', hw', hs', hb', hd', ht', rc', rn', ri', rb', rp', rt', rf', rl', bc', bh', bb', bf', bl', sd', sc', sbc', slc', sfc', sbr', sle', yct', out', m', chg', h1, h2, h3, h4, h5⟩ := do_restore IR IY IS s.2.2.2.2.2.2.2.2.1.2.2.2.2.2.2.2.2.1 s.2.2.2.2.2.2.2.2.2.1
  apply Exists.intro
  apply And.intro
  · unfold lT_52 f_law_52
    rw [h1, z_bind, h2, z_bind]
    dsimp only
    rw [l_thr, z_bind, if_pos rfl, l_std h3]
    rfl
  · exact ⟨zRel_mono h4 (by omega), zHist_mono h5 (by omega), zSnap_mono IS (by omega), IX, IE, IF, IL, IB, IO⟩

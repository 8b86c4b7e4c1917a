/-! THE LINE: the class' text against the model's line -/
theorem lW_ok : ∀ {l : List ztIt}, ztOk l = true → ztWs l ≤ 20
  | [], _ => Nat.zero_le _
  | it :: l, h => by
    simp only [ztOk, Bool.and_eq_true, decide_eq_true_eq] at h
    exact h.1.2
theorem lLn_nil (line : Nat → Int32) : lLn [] line 0 := ⟨rfl, rfl, fun i hi => absurd hi (Nat.not_lt_zero i)⟩
theorem lw_dg {v k : Nat} (hv : v < 1000000) (hk : 0 < k) (h : v < 10 ^ k) : sb_dg v ≤ k := by
  obtain ⟨e, d, s⟩ := sb_dg_ex hv
  rw [s]
  by_cases c : e + 1 ≤ k
  · exact c
  · have g := zDl_ge d (i := k - 1) (by omega)
    rw [show k - 1 + 1 = k by omega] at g
    omega
theorem lw_n (v : Nat) (hv : v < 1000000) (l : List ztIt) : ztWs ((1, nI v) :: l) = ztWs l + sb_dg v := by
  rw [ztWs_n, nI_clamp (by omega)]
theorem lLn_num {l : List ztIt} {line : Nat → Int32} {many : Int32} {v : Nat} (h : lLn l line many) (hv : v < 1000000) (hw : ztWs l + sb_dg v ≤ 20) : ∃ (line' : Nat → Int32) (many' : Int32), f_X10_writesNumber line many (nI v) = some (line', many') ∧ lLn ((1, nI v) :: l) line' many' := by
  obtain ⟨h1, rfl, h3⟩ := h
  have e9 : (nI v).toNatClampNeg = v := nI_clamp (by omega)
  have w := lw_n v hv l
  obtain ⟨e, line', d, f1, f2, f3⟩ := x10_number (v := v) (many := ztWs l) line hv (by have := lW_ok h1; omega)
  have sd := sb_dg_e hv d
  refine ⟨line', _, f1, ?_, ?_, ?_⟩
  · simp only [ztOk, Bool.and_eq_true, decide_eq_true_eq]
    refine ⟨⟨⟨nI_pos (by omega), ?_⟩, by rw [w]; exact hw⟩, h1⟩
    rw [if_neg (by decide), e9]; exact hv
  · rw [w, sd]; rfl
  · intro i hi
    rw [w, sd] at hi
    show line' i = if i < ztWs l then ztAt l i else if (1 : Int32) = 0 then nI v else nI (48 + (nI v).toNatClampNeg / 10 ^ (sb_dg (nI v).toNatClampNeg - 1 - (i - ztWs l)) % 10)
    by_cases c : i < ztWs l
    · rw [if_pos c, f3 i c, h3 i c]
    · rw [if_neg c, if_neg (by decide), e9, sd]
      have q := f2 (i - ztWs l) (by omega)
      rw [show ztWs l + (i - ztWs l) = i by omega] at q
      rw [q, show e + 1 - 1 - (i - ztWs l) = e - (i - ztWs l) by omega]
theorem lLn_wr {l : List ztIt} {line : Nat → Int32} {many ch : Int32} {v c : Nat} (h : lLn l line many) (hc : c < 128) (hch : ch = nI c) (hv : v < 1000000) (hw : ztWs l + 1 + sb_dg v ≤ 20) : ∃ (line' : Nat → Int32) (many' : Int32), f_X10_writes line many ch (nI v) = some (line', many') ∧ ztOk ((0, ch) :: l) = true ∧ lLn ((1, nI v) :: (0, ch) :: l) line' many' := by
  subst hch
  obtain ⟨h1, rfl, h3⟩ := h
  have e9 : (nI v).toNatClampNeg = v := nI_clamp (by omega)
  have w1 := ztWs_c (nI c) l
  have w := lw_n v hv ((0, nI c) :: l)
  rw [w1] at w
  obtain ⟨e, line', d, f1, f4, f2, f3⟩ := x10_writes (v := v) (many := ztWs l) line (nI c) hv (by have := lW_ok h1; omega)
  have sd := sb_dg_e hv d
  have o1 : ztOk ((0, nI c) :: l) = true := by
    simp only [ztOk, Bool.and_eq_true, decide_eq_true_eq]
    refine ⟨⟨⟨nI_pos (by omega), ?_⟩, by rw [w1]; omega⟩, h1⟩
    rw [if_pos trivial, nI_clamp (by omega)]; exact hc
  refine ⟨line', _, f1, o1, ?_, ?_, ?_⟩
  · simp only [ztOk, Bool.and_eq_true, decide_eq_true_eq] at o1 ⊢
    refine ⟨⟨⟨nI_pos (by omega), ?_⟩, by rw [w]; exact hw⟩, o1⟩
    rw [if_neg (by decide), e9]; exact hv
  · rw [w, sd]; rfl
  · intro i hi
    rw [w, sd] at hi
    show line' i = if i < ztWs ((0, nI c) :: l) then (if i < ztWs l then ztAt l i else if (0 : Int32) = 0 then nI c else nI (48 + (nI c).toNatClampNeg / 10 ^ (sb_dg (nI c).toNatClampNeg - 1 - (i - ztWs l)) % 10)) else if (1 : Int32) = 0 then nI v else nI (48 + (nI v).toNatClampNeg / 10 ^ (sb_dg (nI v).toNatClampNeg - 1 - (i - ztWs ((0, nI c) :: l))) % 10)
    rw [w1]
    by_cases c1 : i < ztWs l
    · rw [if_pos (by omega), if_pos c1, f3 i c1, h3 i c1]
    · by_cases c2 : i = ztWs l
      · subst c2
        rw [if_pos (by omega), if_neg c1, if_pos rfl, f4]
      · rw [if_neg (by omega), if_neg (by decide), e9, sd]
        have q := f2 (i - (ztWs l + 1)) (by omega)
        rw [show ztWs l + 1 + (i - (ztWs l + 1)) = i by omega] at q
        rw [q, show e + 1 - 1 - (i - (ztWs l + 1)) = e - (i - (ztWs l + 1)) by omega]
theorem lAt_ch : ∀ {l : List ztIt}, ztOk l = true → ∀ i, i < ztWs l → ∃ k, k < 128 ∧ ztAt l i = nI k
  | [], _, i, hi => absurd hi (Nat.not_lt_zero i)
  | it :: l, h, i, hi => by
    have h9 := h
    simp only [ztOk, Bool.and_eq_true, decide_eq_true_eq] at h9
    obtain ⟨⟨⟨h1, h2⟩, h3⟩, h4⟩ := h9
    by_cases c : i < ztWs l
    · obtain ⟨k, hk, e⟩ := lAt_ch h4 i c
      exact ⟨k, hk, by show (if i < ztWs l then ztAt l i else _) = _; rw [if_pos c, e]⟩
    · by_cases c0 : it.1 = 0
      · rw [if_pos c0] at h2
        exact ⟨it.2.toNatClampNeg, h2, by show (if i < ztWs l then ztAt l i else _) = _; rw [if_neg c, if_pos c0, z_self h1]⟩
      · refine ⟨_, ?_, by show (if i < ztWs l then ztAt l i else _) = _; rw [if_neg c, if_neg c0]⟩
        omega
theorem l_chr {k : Nat} (hk : k < 128) : vp_nar .char (nI k) = nI k := by
  have : ∀ k, k < 128 → vp_nar .char (nI k) = nI k := by decide +kernel
  exact this k hk
theorem l_c16 {k : Nat} (hk : k < 128) : ((nI k).toUInt32 % 65536).toInt32 = nI k := by
  have : ∀ k, k < 128 → ((nI k).toUInt32 % 65536).toInt32 = nI k := by decide +kernel
  exact this k hk
theorem get_outputAt {l : List ztIt} {line : Nat → Int32} {many : Int32} (I : lLn l line many) (th a : Int32) (out : Nat → Int64) : zSame (f_L_outputAt l out a) (f_X10_outputAt th line many a) := by
  obtain ⟨h1, rfl, h3⟩ := I
  have w := lW_ok h1
  unfold f_L_outputAt f_X9_outputAt f_X10_outputAt
  rcases z_arg a (n := ztWs l) (by omega) with ⟨k, hk, rfl⟩ | hout
  · obtain ⟨x, hx, ex⟩ := lAt_ch h1 k hk
    rw [if_neg (nI_pos (by omega)), if_pos (nI_lt hk (by omega)), if_pos (show jin (nI k) (ztWs l) = true by rw [z_jin (by omega)]; exact decide_eq_true hk), nI_clamp (n := k) (by omega), ex, if_pos (l_chr hx), z_inr, if_pos (show jin 0 1 = true by decide), x10_inT (by omega) hk, z_bind, if_neg z_n10, if_pos (show jin (nI k) 40 = true by rw [z_jin (by omega)]; exact decide_eq_true (by omega)), h3 k hk, ex, l_c16 hx, if_pos (l_chr hx)]
    exact zSame_val out _
  · rw [x10_inF (by omega) hout, z_bind, if_pos rfl]
    have e : (if a < 0 then (some (.inl "java/lang/IndexOutOfBoundsException") : Option (String ⊕ Int32)) else if a < nI (ztWs l) then (if jin a (ztWs l) = true then (if vp_nar .char (ztAt l a.toNatClampNeg) = ztAt l a.toNatClampNeg then some (.inr (ztAt l a.toNatClampNeg)) else none) else none) else some (.inl "java/lang/IndexOutOfBoundsException")) = some (.inl "java/lang/IndexOutOfBoundsException") := by
      rcases hout with h | h
      · rw [if_pos h]
      · by_cases c : a < 0
        · rw [if_pos c]
        · rw [if_neg c, if_neg (Int32.not_lt.mpr h)]
    rw [e, z_inl, if_pos rfl]
    exact ⟨_, 1, out, rfl, rfl, fun e => absurd e (by decide)⟩
section LRender
variable {n T : Nat} {P W L B D : Nat → Nat} {hc : Int32} {hp hw hs hb hd ht m : Nat → Int32}
theorem get_renderHammer (H : zRH n P W L B D T hc hp hw hs hb hd ht m) (hT : T < 900000) (th a : Int32) (out : Nat → Int64) {l : List ztIt} {line : Nat → Int32} {many : Int32} (I : lLn l line many) :
    ∃ v c l' out' line' many', f_L_renderHammer hc hp hw hs hb hd l out a = some (c, l', out') ∧ f_X10_renderHammer m th line many a = some (v, c, line', many') ∧ (c = 0 → out' 0 = v.toInt64) ∧ lLn l' line' many' := by
  rcases rq_hammer H a with ⟨k, hk, rfl, e1, e2⟩ | ⟨e1, e2⟩
  · obtain ⟨h1, h2, h3, h4, h5, h6, h7, h8, h9, h10⟩ := H
    subst h2
    have p4 := h4 k hk
    have p5 := h5 k hk
    have p6 := h6 k hk
    have sk : sb_dg k ≤ 2 := lw_dg (by omega) (by omega) (by omega)
    have sP : sb_dg (P k) ≤ 2 := lw_dg (by omega) (by omega) (by omega)
    have sW : sb_dg (W k) ≤ 3 := lw_dg (by omega) (by omega) (by omega)
    have w0 : ztWs [] = 0 := rfl
    obtain ⟨l1, m1, g1, L1⟩ := lLn_num (v := k) (lLn_nil line) (by omega) (by omega)
    have w1 := lw_n k (by omega) []
    obtain ⟨l2, m2, g2, o2, L2⟩ := lLn_wr (v := P k) (ch := 112) (c := 112) L1 (by decide) rfl (by omega) (by omega)
    have w2 := lw_n (P k) (by omega) ((0, 112) :: [(1, nI k)])
    rw [ztWs_c] at w2
    obtain ⟨l3, m3, g3, o3, L3⟩ := lLn_wr (v := W k) (ch := 119) (c := 119) L2 (by decide) rfl (by omega) (by omega)
    have w3 := lw_n (W k) (by omega) ((0, 119) :: (1, nI (P k)) :: (0, 112) :: [(1, nI k)])
    rw [ztWs_c] at w3
    have j0 : jin (nI (8 + 6 * k)) 2048 = true := by rw [z_jin (by omega)]; exact decide_eq_true (by omega)
    have j1 : jin (nI (8 + 6 * k + 1)) 2048 = true := by rw [z_jin (by omega)]; exact decide_eq_true (by omega)
    have j2 : jin (nI (8 + 6 * k + 2)) 2048 = true := by rw [z_jin (by omega)]; exact decide_eq_true (by omega)
    have j4 : jin (nI (8 + 6 * k + 4)) 2048 = true := by rw [z_jin (by omega)]; exact decide_eq_true (by omega)
    have j5 : jin (nI (8 + 6 * k + 5)) 2048 = true := by rw [z_jin (by omega)]; exact decide_eq_true (by omega)
    have n1 : nI (8 + 6 * k) + 1 = nI (8 + 6 * k + 1) := nI_1 _
    have n2 : nI (8 + 6 * k) + 2 = nI (8 + 6 * k + 2) := nI_add _ 2
    have n4 : nI (8 + 6 * k) + 4 = nI (8 + 6 * k + 4) := nI_add _ 4
    have n5 : nI (8 + 6 * k) + 5 = nI (8 + 6 * k + 5) := nI_add _ 5
    have E3 : f_X10_renderHammer m th line many (nI k) = if m (8 + 6 * k + 2) = (-1) then Option.bind (f_X10_writes l3 m3 64 (m (8 + 6 * k + 4))) (fun u11 => Option.bind (f_X10_writes u11.1 u11.2 60 (m (8 + 6 * k + 5))) (fun u13 => some (u13.2, 0, u13.1, u13.2))) else some (m3, 0, l3, m3) := by
      unfold f_X10_renderHammer
      rw [e2, z_bind, if_neg z_n10, x10_hammerOf, z_bind, show f_X10_writesNumber line 0 (nI k) = _ from g1, z_bind, if_pos j0, z_cl (by omega), p6.1]
      dsimp only
      rw [g2, z_bind, n1, if_pos j1, z_cl (by omega), p6.2.1]
      dsimp only
      rw [g3, z_bind, n2, if_pos j2, z_cl (by omega), n4, if_pos j4, z_cl (by omega), n5]
      have z5 : (nI (8 + 6 * k + 5)).toNatClampNeg = 8 + 6 * k + 5 := z_cl (by omega)
      simp only [j5, z5, ↓reduceIte]
    have E4 : f_X9_renderHammer (nI n) hp hw hs hb hd l (nI k) = (if (if 18 ≤ L k then (1 : Int32) else 0) = 0 then some (.inr (nI (ztWs ((1, nI (W k)) :: (0, 119) :: (1, nI (P k)) :: (0, 112) :: [(1, nI k)])), (1, nI (W k)) :: (0, 119) :: (1, nI (P k)) :: (0, 112) :: [(1, nI k)])) else if ztOk ((0, 64) :: (1, nI (W k)) :: (0, 119) :: (1, nI (P k)) :: (0, 112) :: [(1, nI k)]) = true then (if ztOk ((1, hb k) :: (0, 64) :: (1, nI (W k)) :: (0, 119) :: (1, nI (P k)) :: (0, 112) :: [(1, nI k)]) = true then (if ztOk ((0, 60) :: (1, hb k) :: (0, 64) :: (1, nI (W k)) :: (0, 119) :: (1, nI (P k)) :: (0, 112) :: [(1, nI k)]) = true then (if ztOk ((1, hd k) :: (0, 60) :: (1, hb k) :: (0, 64) :: (1, nI (W k)) :: (0, 119) :: (1, nI (P k)) :: (0, 112) :: [(1, nI k)]) = true then some (.inr (nI (ztWs ((1, hd k) :: (0, 60) :: (1, hb k) :: (0, 64) :: (1, nI (W k)) :: (0, 119) :: (1, nI (P k)) :: (0, 112) :: [(1, nI k)])), (1, hd k) :: (0, 60) :: (1, hb k) :: (0, 64) :: (1, nI (W k)) :: (0, 119) :: (1, nI (P k)) :: (0, 112) :: [(1, nI k)])) else none) else none) else none) else none) := by
      unfold f_X9_renderHammer
      rw [e1, z_inr, if_pos L1.1, if_pos o2, x2_pitchOf hp h1 hk, z_bind, p5.1, if_pos L2.1, if_pos o3, x2_wearOf hw h1 hk, z_bind, p5.2.1, if_pos L3.1, x2_isAway hs h1 hk p5.2.2, z_bind, x2_borrowerOf hb h1 hk, z_bind, x2_dueDayOf hd h1 hk, z_bind]
    unfold f_L_renderHammer
    rw [E4, E3, p6.2.2.1]
    by_cases c : 18 ≤ L k
    · have l18 : L k = 18 := by have := p4.2.2; omega
      have d := h7 k hk l18
      have sB : sb_dg (B k) ≤ 1 := lw_dg (by omega) (by omega) (by omega)
      have sD : sb_dg (D k) ≤ 6 := lw_dg (by omega) (by omega) (by omega)
      obtain ⟨l4, m4, g4, o4, L4⟩ := lLn_wr (v := B k) (ch := 64) (c := 64) L3 (by decide) rfl (by omega) (by omega)
      have w4 := lw_n (B k) (by omega) ((0, 64) :: (1, nI (W k)) :: (0, 119) :: (1, nI (P k)) :: (0, 112) :: [(1, nI k)])
      rw [ztWs_c] at w4
      obtain ⟨l5, m5, g5, o5, L5⟩ := lLn_wr (v := D k) (ch := 60) (c := 60) L4 (by decide) rfl (by omega) (by omega)
      rw [d.2.2.1, d.2.2.2.1, d.2.2.2.2.1, d.2.2.2.2.2, if_neg (show ¬ (if 18 ≤ L k then (1 : Int32) else 0) = 0 by rw [if_pos c]; decide), if_pos o4, if_pos L4.1, if_pos o5, if_pos L5.1, z_inr, if_pos (show jin 0 1 = true by decide), if_pos (show zR (L k) = -1 by rw [zR_m1]; exact c), g4, z_bind]
      dsimp only
      rw [g5, z_bind]
      dsimp only
      rw [L5.2.1]
      exact ⟨_, _, _, _, _, _, rfl, rfl, fun _ => rfl, L5.1, rfl, L5.2.2⟩
    · rw [if_pos (show (if 18 ≤ L k then (1 : Int32) else 0) = 0 by rw [if_neg c]), z_inr, if_pos (show jin 0 1 = true by decide), if_neg (show ¬ zR (L k) = -1 by rw [zR_m1]; exact c), L3.2.1]
      exact ⟨_, _, _, _, _, _, rfl, rfl, fun _ => rfl, L3.1, rfl, L3.2.2⟩
  · unfold f_L_renderHammer f_X9_renderHammer f_X10_renderHammer
    rw [e1, z_inl, z_inl, e2, z_bind, if_pos rfl]
    exact ⟨_, 1, _, _, _, _, rfl, rfl, fun h => absurd h (by decide), I⟩
end LRender
section LRack
variable {n T : Nat} {P W L B D : Nat → Nat} {hc : Int32} {hp hw hs hb hd ht m : Nat → Int32}
theorem lLn_sg {l : List ztIt} {line : Nat → Int32} {many ch : Int32} {c : Nat} (h : lLn l line many) (hc : c < 128) (hch : ch = nI c) (hw : ztWs l + 1 ≤ 20) : ∃ (line' : Nat → Int32) (many' : Int32), f_X10_sign line many ch = some (line', many') ∧ lLn ((0, ch) :: l) line' many' := by
  subst hch
  obtain ⟨h1, rfl, h3⟩ := h
  have w1 := ztWs_c (nI c) l
  refine ⟨_, _, x10_signs line (nI c) (by omega), ?_, ?_, ?_⟩
  · simp only [ztOk, Bool.and_eq_true, decide_eq_true_eq]
    refine ⟨⟨⟨nI_pos (by omega), ?_⟩, by rw [w1]; omega⟩, h1⟩
    rw [if_pos trivial, nI_clamp (by omega)]; exact hc
  · rw [w1]
  · intro i hi
    rw [w1] at hi
    show upd line (ztWs l) (nI c) i = if i < ztWs l then ztAt l i else if (0 : Int32) = 0 then nI c else nI (48 + (nI c).toNatClampNeg / 10 ^ (sb_dg (nI c).toNatClampNeg - 1 - (i - ztWs l)) % 10)
    unfold upd
    by_cases c1 : i < ztWs l
    · rw [if_pos c1, if_neg (by omega), h3 i c1]
    · rw [if_neg c1, if_pos rfl, if_pos (by omega)]
theorem rr_K {β : Type} (H : zRH n P W L B D T hc hp hw hs hb hd ht m) {r p : Nat} (hr : r < 3) (hp6 : p < 6) (rec : List ztIt → Option (List ztIt)) {l : List ztIt} {line : Nat → Int32} {many : Int32} (I : lLn l line many) (hw9 : ztWs l + 2 ≤ 20) :
    ∃ l' line' many', f_X9_renderRack_K ht (nI r) rec p l = rec l' ∧ (∀ F : (Nat → Int32) → Int32 → Option β, Option.bind (f_X10_standing m (nI r) (nI p)) (fun u3 => if u3 = (-1) then Option.bind (f_X10_sign line many 45) (fun u9 => F u9.1 u9.2) else Option.bind (f_X10_standing m (nI r) (nI p)) (fun u5 => Option.bind (f_X10_writesNumber line many u5) (fun u7 => F u7.1 u7.2))) = F line' many') ∧ lLn l' line' many' ∧ ztWs l' ≤ ztWs l + 2 := by
  obtain ⟨h1, h2, h3, h4, h5, h6, h7, h8, h9, h10⟩ := H
  have s1 := x10_standing h1 h3 (fun k hk => (h6 k hk).2.2) hr hp6
  have s2 := x2_contentOf ht hr hp6
  rw [h9 _ (by omega)] at s2
  unfold f_X9_renderRack_K
  by_cases c : zAt n L (r * 6 + p) < n
  · have e : ¬ zO n (zAt n L (r * 6 + p)) = -1 := by rw [zO_m1 h1]; omega
    have e2 : zO n (zAt n L (r * 6 + p)) = nI (zAt n L (r * 6 + p)) := by unfold zO; rw [if_pos c]
    have sd : sb_dg (zAt n L (r * 6 + p)) ≤ 2 := lw_dg (by omega) (by omega) (by omega)
    obtain ⟨line', many', g, L1⟩ := lLn_num (v := zAt n L (r * 6 + p)) I (by omega) (by omega)
    refine ⟨_, line', many', ?_, fun F => ?_, L1, ?_⟩
    · rw [s2, z_bind, if_neg e, e2, if_pos L1.1]
    · rw [s1, z_bind, if_neg e, z_bind, e2, g, z_bind]
    · rw [lw_n _ (by omega)]; omega
  · have e : zO n (zAt n L (r * 6 + p)) = -1 := by rw [zO_m1 h1]; omega
    obtain ⟨line', many', g, L1⟩ := lLn_sg (ch := 45) (c := 45) I (by decide) rfl (by omega)
    refine ⟨_, line', many', ?_, fun F => ?_, L1, ?_⟩
    · rw [s2, z_bind, if_pos e, if_pos L1.1]
    · rw [s1, z_bind, if_pos e, g, z_bind]
    · rw [ztWs_c]; omega
theorem rr_loop (H : zRH n P W L B D T hc hp hw hs hb hd ht m) {r : Nat} (hr : r < 3) : ∀ (d p fu : Nat) (l : List ztIt) (line : Nat → Int32) (many : Int32), p + d = 6 → d < fu → lLn l line many → ztWs l ≤ 3 * p →
    ∃ l' line' many', f_X9_renderRack_L ht (nI r) d p l = some l' ∧ f_X10_renderRack_L25 m (nI r) fu (nI p) line many = some (nI 6, line', many') ∧ lLn l' line' many' := by
  intro d
  induction d with
  | zero =>
    intro p fu l line many hp6 hf I hw9
    obtain ⟨fu, rfl⟩ : ∃ f, fu = f + 1 := ⟨fu - 1, by omega⟩
    obtain rfl : p = 6 := by omega
    refine ⟨l, line, many, rfl, ?_, I⟩
    unfold f_X10_renderRack_L25
    rw [if_pos (show (6 : Int32) ≤ nI 6 by decide)]
  | succ d ih =>
    intro p fu l line many hp6 hf I hw9
    obtain ⟨fu, rfl⟩ : ∃ f, fu = f + 1 := ⟨fu - 1, by omega⟩
    have g6 : ¬ (6 : Int32) ≤ nI p := nI_ge (b := 6) (by omega) (by decide)
    unfold f_X9_renderRack_L f_X10_renderRack_L25
    rw [if_neg g6]
    by_cases c : p = 0
    · subst c
      obtain ⟨l1, line1, many1, k1, k2, k3, k4⟩ := rr_K (β := Int32 × (Nat → Int32) × Int32) (p := 0) H hr (by omega) (f_X9_renderRack_L ht (nI r) d (0 + 1)) I (by omega)
      obtain ⟨l2, line2, many2, q1, q2, q3⟩ := ih (0 + 1) fu l1 line1 many1 (by omega) (by omega) k3 (by omega)
      refine ⟨l2, line2, many2, ?_, ?_, q3⟩
      · rw [if_pos rfl, k1, q1]
      · rw [if_pos (show nI 0 ≤ 0 by decide)]
        rw [← nI_1] at q2
        exact (k2 (fun a b => f_X10_renderRack_L25 m (nI r) fu (nI 0 + 1) a b)).trans q2
    · obtain ⟨line0, many0, g0, I0⟩ := lLn_sg (ch := 44) (c := 44) I (by decide) rfl (by omega)
      have w0 := ztWs_c 44 l
      obtain ⟨l1, line1, many1, k1, k2, k3, k4⟩ := rr_K (β := Int32 × (Nat → Int32) × Int32) H hr (show p < 6 by omega) (f_X9_renderRack_L ht (nI r) d (p + 1)) I0 (by omega)
      obtain ⟨l2, line2, many2, q1, q2, q3⟩ := ih (p + 1) fu l1 line1 many1 (by omega) (by omega) k3 (by omega)
      refine ⟨l2, line2, many2, ?_, ?_, q3⟩
      · rw [if_neg c, if_pos I0.1, k1, q1]
      · rw [if_neg (show ¬ nI p ≤ 0 from nI_nle (by omega) (by omega)), g0, z_bind]
        rw [← nI_1] at q2
        exact (k2 (fun a b => f_X10_renderRack_L25 m (nI r) fu (nI p + 1) a b)).trans q2
theorem get_renderRack (H : zRH n P W L B D T hc hp hw hs hb hd ht m) (th a : Int32) (out : Nat → Int64) {l : List ztIt} {line : Nat → Int32} {many : Int32} (I : lLn l line many) :
    ∃ v c l' out' line' many', f_L_renderRack ht l out a = some (c, l', out') ∧ f_X10_renderRack m th line many a = some (v, c, line', many') ∧ (c = 0 → out' 0 = v.toInt64) ∧ lLn l' line' many' := by
  unfold f_L_renderRack f_X9_renderRack f_X10_renderRack
  rcases rq_rack a with ⟨r, hr, rfl, e1, e2⟩ | ⟨e1, e2⟩
  · obtain ⟨l2, line2, many2, q1, q2, q3⟩ := rr_loop H hr 6 0 jFU [] line 0 (by omega) (pz_jFU (by omega)) (lLn_nil line) (by show 0 ≤ _; omega)
    rw [e1, z_inr, q1, z_bind, z_inr, if_pos (show jin 0 1 = true by decide), e2, z_bind, if_neg z_n10, show f_X10_renderRack_L25 m (nI r) jFU 0 line 0 = _ from q2, z_bind]
    dsimp only
    exact ⟨_, 0, _, _, _, _, rfl, rfl, fun _ => by rw [q3.2.1]; rfl, q3⟩
  · rw [e1, z_inl, z_inl, e2, z_bind, if_pos rfl]
    exact ⟨_, 1, _, _, _, _, rfl, rfl, fun h => absurd h (by decide), I⟩
end LRack
set_option maxHeartbeats 4000000 in
set_option maxRecDepth 100000 in
theorem p_43 {T : Nat} {s : lS} (I : lInv T s) (hT : T < 900000) (e1 : Int32) : ∃ s9, lT_43 e1 s = some s9 ∧ lInv (T + 465) s9 := by
  obtain ⟨IR, IY, IS, IX, IE, IF, IL, IB, IO⟩ := I
  obtain ⟨n, P, W, L, B, D, q, b, d, H, R, G, S⟩ := id IR
  obtain ⟨v, c, l9, out9, line9, many9, h1, h2, h3, h4⟩ := get_renderRack H s.2.2.2.2.2.2.2.2.1.2.2.2.2.2.2.2.2.1 e1 s.2.2.2.2.2.2.2.2.2.1 IO
  apply Exists.intro
  apply And.intro
  · unfold lT_43 f_law_43
    rw [h1, z_bind, h2, z_bind]
    dsimp only
    rw [l_thr, z_bind, if_pos rfl, l_std h3]
    rfl
  · exact ⟨zRelS_mono IR (by omega), zHist_mono IY (by omega), zSnap_mono IS (by omega), IX, IE, IF, IL, IB, h4⟩
set_option maxHeartbeats 4000000 in
set_option maxRecDepth 100000 in
theorem p_44 {T : Nat} {s : lS} (I : lInv T s) (hT : T < 900000) (e1 : Int32) : ∃ s9, lT_44 e1 s = some s9 ∧ lInv (T + 465) s9 := by
  obtain ⟨IR, IY, IS, IX, IE, IF, IL, IB, IO⟩ := I
  obtain ⟨n, P, W, L, B, D, q, b, d, H, R, G, S⟩ := id IR
  obtain ⟨v, c, l9, out9, line9, many9, h1, h2, h3, h4⟩ := get_renderHammer H hT s.2.2.2.2.2.2.2.2.1.2.2.2.2.2.2.2.2.1 e1 s.2.2.2.2.2.2.2.2.2.1 IO
  apply Exists.intro
  apply And.intro
  · unfold lT_44 f_law_44
    rw [h1, z_bind, h2, z_bind]
    dsimp only
    rw [l_thr, z_bind, if_pos rfl, l_std h3]
    rfl
  · exact ⟨zRelS_mono IR (by omega), zHist_mono IY (by omega), zSnap_mono IS (by omega), IX, IE, IF, IL, IB, h4⟩
set_option maxHeartbeats 4000000 in
set_option maxRecDepth 100000 in
theorem p_45 {T : Nat} {s : lS} (I : lInv T s) (hT : T < 900000) (e1 : Int32) : ∃ s9, lT_45 e1 s = some s9 ∧ lInv (T + 465) s9 := by
  obtain ⟨IR, IY, IS, IX, IE, IF, IL, IB, IO⟩ := I
  obtain ⟨v, c, out9, h1, h2, h3⟩ := get_outputAt IO s.2.2.2.2.2.2.2.2.1.2.2.2.2.2.2.2.2.1 e1 s.2.2.2.2.2.2.2.2.2.1
  apply Exists.intro
  apply And.intro
  · unfold lT_45 f_law_45
    rw [h1, z_bind, h2, z_bind]
    dsimp only
    rw [l_thr, z_bind, if_pos rfl, l_std h3]
    rfl
  · exact ⟨zRelS_mono IR (by omega), zHist_mono IY (by omega), zSnap_mono IS (by omega), IX, IE, IF, IL, IB, IO⟩

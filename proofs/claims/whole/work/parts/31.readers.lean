/-! PURE: free places, counts, the order by wear -/
abbrev zFree (n : Nat) (L : Nat → Nat) (r : Nat) : Nat := pzf (fun p => decide (n ≤ zAt n L (r * 6 + p))) 6
theorem x2_freePlaceOf {n r : Nat} {L : Nat → Nat} {ht : Nat → Int32} (hn : n ≤ 12) (hr : r < 3) (hT : ∀ s, s < 18 → ht s = zO n (zAt n L s)) : f_X2_freePlaceOf ht (nI r) = some (zO 6 (zFree n L r)) := by
  have key := pzL (F := f_X2_freePlaceOf_L2 ht (nI r)) (n := 6) (fun p => decide (n ≤ zAt n L (r * 6 + p))) (fun k => nI k)
    (fun fu => by
      rw [f_X2_freePlaceOf_L2, z_rack9 hr, z_bind, if_neg (by decide), if_pos (by decide)])
    (fun fu k hk => by
      rw [f_X2_freePlaceOf_L2, z_rack9 hr, z_bind, if_neg (by decide), if_neg (show ¬ (6 : Int32) ≤ nI k from nI_ge (b := 6) hk (by omega)), x2_contentOf ht hr hk, z_bind, hT _ (by omega), nI_1]
      simp only [zO_m1 hn, decide_eq_true_eq])
    jFU (pz_jFU (by omega))
  unfold f_X2_freePlaceOf
  rw [show (0 : Int32) = nI 0 from rfl, key]
  unfold zO
  by_cases h : pzf (fun p => decide (n ≤ zAt n L (r * 6 + p))) 6 < 6
  · rw [if_pos h, if_pos h]; rfl
  · rw [if_neg h, if_neg h]; rfl
theorem x10_freePlace {n r : Nat} {L : Nat → Nat} {m : Nat → Int32} (hn : n ≤ 12) (hm : m 0 = nI n) (hR : ∀ k, k < n → m (8 + 6 * k + 2) = zR (L k) ∧ m (8 + 6 * k + 3) = zP (L k)) (hr : r < 3) : f_X10_freePlace m (nI r) = some (zO 6 (zFree n L r)) := by
  have key := pzL (F := f_X10_freePlace_L2 m (nI r)) (n := 6) (fun p => decide (n ≤ zAt n L (r * 6 + p))) (fun k => nI k)
    (fun fu => by
      rw [f_X10_freePlace_L2, if_pos (by decide)])
    (fun fu k hk => by
      rw [f_X10_freePlace_L2, if_neg (show ¬ (6 : Int32) ≤ nI k from nI_ge (b := 6) hk (by omega)), x10_standing hn hm hR hr hk, z_bind, nI_1]
      simp only [zO_m1 hn, decide_eq_true_eq])
    jFU (pz_jFU (by omega))
  unfold f_X10_freePlace
  rw [show (0 : Int32) = nI 0 from rfl, key]
  unfold zO
  by_cases h : pzf (fun p => decide (n ≤ zAt n L (r * 6 + p))) 6 < 6
  · rw [if_pos h, if_pos h]; rfl
  · rw [if_neg h, if_neg h]; rfl
theorem x2_countIn {n r : Nat} {L : Nat → Nat} {ht : Nat → Int32} (hn : n ≤ 12) (hr : r < 3) (hT : ∀ s, s < 18 → ht s = zO n (zAt n L s)) : f_X2_countIn ht (nI r) = some (nI (fb_ct (fun p => decide (zAt n L (r * 6 + p) < n)) 6)) := by
  obtain ⟨s, hs, e⟩ := pzG (F := f_X2_countIn_L4 ht (nI r)) (n := 6) (fun k s => s = nI (fb_ct (fun p => decide (zAt n L (r * 6 + p) < n)) k))
    (fun fu s _ => by rw [f_X2_countIn_L4, if_pos (by decide)])
    (fun fu k s hk hs => by
      refine ⟨_, rfl, ?_⟩
      rw [f_X2_countIn_L4, if_neg (show ¬ (6 : Int32) ≤ nI k from nI_ge (b := 6) hk (by omega)), x2_contentOf ht hr hk, z_bind, hT _ (by omega), nI_1, hs]
      simp only [zO_m1 hn, fb_ct_succ, decide_eq_true_eq]
      by_cases h : zAt n L (r * 6 + k) < n
      · rw [if_neg (by omega), if_pos h, nI_1]
      · rw [if_pos (by omega), if_neg h]; try rfl)
    (nI 0) jFU (pz_jFU (by omega)) rfl
  unfold f_X2_countIn
  rw [show (0 : Int32) = nI 0 from rfl, e, z_bind, hs]
theorem x10_many {n : Nat} {L : Nat → Nat} {m : Nat → Int32} {x : Int32} (q : Nat → Bool) (hn : n ≤ 12) (hm : m 0 = nI n) (hR : ∀ k, k < n → m (8 + 6 * k + 2) = zR (L k)) (hx : ∀ l, (zR l = x) = (q l = true)) : f_X10_many m x = some (nI (fb_ct (fun k => q (L k)) n)) := by
  obtain ⟨s, hs, e⟩ := pzG (F := f_X10_many_L4 m x) (n := n) (fun k s => s = nI (fb_ct (fun k => q (L k)) k))
    (fun fu s _ => by
      rw [f_X10_many_L4, if_pos (by decide), show (0 : Int32).toNatClampNeg = 0 from rfl, hm, if_pos (nI_le (Nat.le_refl _) (by omega))])
    (fun fu k s hk hs => by
      refine ⟨_, rfl, ?_⟩
      rw [f_X10_many_L4, if_pos (by decide), show (0 : Int32).toNatClampNeg = 0 from rfl, hm, if_neg (nI_ge hk (by omega)), x10_hammerOf, z_bind, z_addl, if_pos (by rw [z_jin (by omega)]; simp; omega), z_cl (by omega), hR k hk, nI_1, hs]
      simp only [hx, fb_ct_succ]
      by_cases h : q (L k) = true
      · rw [if_pos h, if_pos h, nI_1]
      · rw [if_neg h, if_neg h, z_addl])
    (nI 0) jFU (pz_jFU (by omega)) rfl
  unfold f_X10_many
  rw [show (0 : Int32) = nI 0 from rfl, e, z_bind, hs]
theorem x2_wearSum {n : Nat} {W : Nat → Nat} {hw : Nat → Int32} (hn : n ≤ 12) (h : ∀ k, k < n → hw k = nI (W k)) : f_X2_wearSum (nI n) hw = some (nI (fb_sm W n)) := by
  obtain ⟨s, hs, e⟩ := pzG (F := f_X2_wearSum_L4 (nI n) hw) (n := n) (fun k s => s = nI (fb_sm W k))
    (fun fu s _ => by rw [f_X2_wearSum_L4, if_pos (nI_le (Nat.le_refl _) (by omega))])
    (fun fu k s hk hs => by
      refine ⟨_, rfl, ?_⟩
      rw [f_X2_wearSum_L4, if_neg (nI_ge hk (by omega)), x2_wearOf hw hn hk, z_bind, h k hk, hs, nI_add, nI_1, fb_sm_succ])
    (nI 0) jFU (pz_jFU (by omega)) rfl
  unfold f_X2_wearSum
  rw [show (0 : Int32) = nI 0 from rfl, e, z_bind, hs]
theorem x2_awayCount {n : Nat} {L : Nat → Nat} {hs : Nat → Int32} (hn : n ≤ 12) (h : ∀ k, k < n → hs k = zS (L k)) : f_X2_awayCount (nI n) hs = some (nI (fb_ct (fun k => decide (18 ≤ L k)) n)) := by
  obtain ⟨s, hs', e⟩ := pzG (F := f_X2_awayCount_L4 (nI n) hs) (n := n) (fun k s => s = nI (fb_ct (fun k => decide (18 ≤ L k)) k))
    (fun fu s _ => by rw [f_X2_awayCount_L4, if_pos (nI_le (Nat.le_refl _) (by omega))])
    (fun fu k s hk hs' => by
      refine ⟨_, rfl, ?_⟩
      rw [f_X2_awayCount_L4, if_neg (nI_ge hk (by omega)), x2_isAway hs hn hk (h k hk), z_bind, hs', nI_1]
      simp only [fb_ct_succ, decide_eq_true_eq]
      by_cases h2 : 18 ≤ L k
      · rw [if_pos h2, if_neg (by decide), nI_1, if_pos h2]
      · rw [if_neg h2, if_pos rfl, if_neg h2]; try rfl)
    (nI 0) jFU (pz_jFU (by omega)) rfl
  unfold f_X2_awayCount
  rw [show (0 : Int32) = nI 0 from rfl, e, z_bind, hs']
/-! the order by wear -/
/-- a number's difference against 0 -/
theorem z_sub_lt0 {a b : Nat} (ha : a < 1000000) (hb : b < 1000000) : (nI a - nI b < 0) = (a < b) := by
  rw [Int32.lt_iff_toInt_lt, pk_sub_toInt (by omega) (by omega)]
  have e : (0 : Int32).toInt = 0 := by decide
  rw [e]; exact propext (by omega)
theorem z_sub_gt0 {a b : Nat} (ha : a < 1000000) (hb : b < 1000000) : (0 < nI a - nI b) = (b < a) := by
  rw [Int32.lt_iff_toInt_lt, pk_sub_toInt (by omega) (by omega)]
  have e : (0 : Int32).toInt = 0 := by decide
  rw [e]; exact propext (by omega)
theorem z_sub_ge0 {a b : Nat} (ha : a < 1000000) (hb : b < 1000000) : (0 ≤ nI a - nI b) = (b ≤ a) := by
  rw [Int32.le_iff_toInt_le, pk_sub_toInt (by omega) (by omega)]
  have e : (0 : Int32).toInt = 0 := by decide
  rw [e]; exact propext (by omega)
theorem z_sub_eq0 {a b : Nat} (ha : a < 1000000) (hb : b < 1000000) : (nI a - nI b = 0) = (a = b) := by
  rw [fa_eq, pk_sub_toInt (by omega) (by omega)]
  have e : (0 : Int32).toInt = 0 := by decide
  rw [e]; exact propext (by omega)
def zBef (P : Nat → Nat) (i j : Nat) : Bool := decide (P i < P j ∨ P i = P j ∧ i < j)
def zMore (P W : Nat → Nat) (i j : Nat) : Bool := decide (W j < W i ∨ W i = W j ∧ (P i < P j ∨ P i = P j ∧ i < j))
theorem x2_sortsBefore {n i j : Nat} {P : Nat → Nat} {hp : Nat → Int32} (hn : n ≤ 12) (hP : ∀ k, k < n → P k ≤ 60 ∧ hp k = nI (P k)) (hi : i < n) (hj : j < n) : f_X2_sortsBefore (nI n) hp (nI i) (nI j) = some (if zBef P i j = true then 1 else 0) := by
  have h1 := hP i hi
  have h2 := hP j hj
  unfold f_X2_sortsBefore zBef
  rw [x2_hasT hn hi, z_bind, if_neg (by decide), x2_hasT hn hj, z_bind, if_neg (by decide), if_pos (by rw [z_jin (by omega)]; simp; omega), if_pos (by rw [z_jin (by omega)]; simp; omega), z_cl (by omega), z_cl (by omega), h1.2, h2.2]
  simp only [z_sub_lt0 (show P i < 1000000 by omega) (show P j < 1000000 by omega), z_sub_eq0 (show P i < 1000000 by omega) (show P j < 1000000 by omega), z_le (show j < 2147483648 by omega) (show i < 2147483648 by omega), decide_eq_true_eq]
  by_cases a : P i < P j
  · rw [if_pos a, if_pos (by omega)]
  · rw [if_neg a]
    by_cases b : P i = P j
    · rw [if_pos b]
      by_cases c : j ≤ i
      · rw [if_pos c, if_neg (by omega)]
      · rw [if_neg c, if_pos (by omega)]
    · rw [if_neg b, if_neg (by omega)]
theorem x2_moreWorn {n i j : Nat} {P W : Nat → Nat} {hp hw : Nat → Int32} (hn : n ≤ 12) (hP : ∀ k, k < n → P k ≤ 60 ∧ hp k = nI (P k)) (hW : ∀ k, k < n → W k ≤ 100 ∧ hw k = nI (W k)) (hi : i < n) (hj : j < n) : f_X2_moreWorn (nI n) hp hw (nI i) (nI j) = some (if zMore P W i j = true then 1 else 0) := by
  have h1 := hW i hi
  have h2 := hW j hj
  unfold f_X2_moreWorn zMore
  rw [x2_wearOf hw hn hi, z_bind, x2_wearOf hw hn hj, z_bind, h1.2, h2.2, x2_sortsBefore hn hP hi hj, z_bind]
  simp only [z_sub_gt0 (show W i < 1000000 by omega) (show W j < 1000000 by omega), z_sub_eq0 (show W i < 1000000 by omega) (show W j < 1000000 by omega), zBef, decide_eq_true_eq]
  by_cases a : W j < W i
  · rw [if_pos a, if_pos (by omega)]
  · rw [if_neg a]
    by_cases b : W i = W j
    · rw [if_pos b]
      by_cases c : P i < P j ∨ P i = P j ∧ i < j
      · rw [if_pos c, if_neg (by decide), if_pos (Or.inr ⟨b, c⟩)]
      · rw [if_neg c, if_pos rfl, if_neg (fun q => q.elim a (fun q => c q.2))]
    · rw [if_neg b, if_neg (fun q => q.elim a (fun q => b q.1))]
/-- how many stand before a hammer in the order by wear -/
abbrev zRank (P W : Nat → Nat) (n k : Nat) : Nat := fb_ct (fun i => zMore P W i k) n
theorem x2_byWear {n : Nat} {P W : Nat → Nat} {hp hw : Nat → Int32} (x : Int32) (hn : n ≤ 12) (hP : ∀ k, k < n → P k ≤ 60 ∧ hp k = nI (P k)) (hW : ∀ k, k < n → W k ≤ 100 ∧ hw k = nI (W k)) : f_X2_byWear (nI n) hp hw x = some (zO n (pzf (fun k => decide (nI (zRank P W n k) = x)) n)) := by
  have inner : ∀ k, k < n → f_X2_byWear_L15 (nI n) hp hw (nI k) jFU (nI 0) (nI 0) = some (nI n, nI (zRank P W n k)) := by
    intro k hk
    obtain ⟨s, hs, e⟩ := pzG (F := f_X2_byWear_L15 (nI n) hp hw (nI k)) (n := n) (fun i s => s = nI (fb_ct (fun i => zMore P W i k) i))
      (fun fu s _ => by rw [f_X2_byWear_L15, if_pos (nI_le (Nat.le_refl _) (by omega))])
      (fun fu i s hi hs => by
        refine ⟨_, rfl, ?_⟩
        rw [f_X2_byWear_L15, if_neg (nI_ge hi (by omega)), x2_moreWorn hn hP hW hi hk, z_bind, hs, nI_1]
        simp only [fb_ct_succ]
        by_cases c : zMore P W i k = true
        · rw [if_pos c, if_neg (by decide), if_pos c, nI_1]
        · rw [if_neg c, if_pos rfl, if_neg c]; try rfl)
      (nI 0) jFU (pz_jFU (by omega)) rfl
    rw [e, hs]
  have key := pzL (F := f_X2_byWear_L2 (nI n) hp hw x) (n := n) (fun k => decide (nI (zRank P W n k) = x)) (fun k => nI k)
    (fun fu => by rw [f_X2_byWear_L2, if_pos (nI_le (Nat.le_refl _) (by omega))])
    (fun fu k hk => by
      rw [f_X2_byWear_L2, if_neg (nI_ge hk (by omega)), show (0 : Int32) = nI 0 from rfl, inner k hk, z_bind, nI_1]
      simp only [decide_eq_true_eq])
    jFU (pz_jFU (by omega))
  unfold f_X2_byWear
  rw [show (0 : Int32) = nI 0 from rfl, key]
  unfold zO
  by_cases h : pzf (fun k => decide (nI (zRank P W n k) = x)) n < n
  · rw [if_pos h, if_pos h]; rfl
  · rw [if_neg h, if_neg h]; rfl
theorem x10_hammerByWear {n : Nat} {P W : Nat → Nat} {m : Nat → Int32} (th x : Int32) (hn : n ≤ 12) (hm : m 0 = nI n) (hP : ∀ k, k < n → P k ≤ 60 ∧ m (8 + 6 * k) = nI (P k)) (hW : ∀ k, k < n → W k ≤ 100 ∧ m (8 + 6 * k + 1) = nI (W k)) : f_X10_hammerByWear m th x = some (if pzf (fun k => decide (nI (zRank P W n k) = x)) n < n then (nI (pzf (fun k => decide (nI (zRank P W n k) = x)) n), 0) else (-1, 1)) := by
  have inner : ∀ k, k < n → f_X10_hammerByWear_L22 m (nI k) jFU (nI 0) (nI 0) = some (nI n, nI (zRank P W n k)) := by
    intro k hk
    obtain ⟨s, hs, e⟩ := pzG (F := f_X10_hammerByWear_L22 m (nI k)) (n := n) (fun i s => s = nI (fb_ct (fun i => zMore P W i k) i))
      (fun fu s _ => by rw [f_X10_hammerByWear_L22, if_pos (by decide), show (0 : Int32).toNatClampNeg = 0 from rfl, hm, if_pos (nI_le (Nat.le_refl _) (by omega))])
      (fun fu i s hi hs => by
        refine ⟨_, rfl, ?_⟩
        have p1 := hP i hi
        have p2 := hP k hk
        have w1 := hW i hi
        have w2 := hW k hk
        rw [f_X10_hammerByWear_L22, if_pos (by decide), show (0 : Int32).toNatClampNeg = 0 from rfl, hm, if_neg (nI_ge hi (by omega)), x10_hammerOf, x10_hammerOf]
        simp only [z_bind, z_addl]
        have j : ∀ x, x < 2048 → jin (nI x) 2048 = true := fun x hx => by rw [z_jin (by omega)]; simp; omega
        simp only [j (8 + 6 * i) (by omega), j (8 + 6 * k) (by omega), j (8 + 6 * i + 1) (by omega), j (8 + 6 * k + 1) (by omega), if_true, z_cl (show 8 + 6 * i < 2147483648 by omega), z_cl (show 8 + 6 * k < 2147483648 by omega), z_cl (show 8 + 6 * i + 1 < 2147483648 by omega), z_cl (show 8 + 6 * k + 1 < 2147483648 by omega)]
        rw [p1.2, p2.2, w1.2, w2.2, hs]
        simp only [z_sub_gt0 (show W i < 1000000 by omega) (show W k < 1000000 by omega), z_sub_eq0 (show W i < 1000000 by omega) (show W k < 1000000 by omega), z_sub_gt0 (show P k < 1000000 by omega) (show P i < 1000000 by omega), z_sub_eq0 (show P k < 1000000 by omega) (show P i < 1000000 by omega), z_le (show k < 2147483648 by omega) (show i < 2147483648 by omega), nI_1, fb_ct_succ, zMore, decide_eq_true_eq, z_addl]; try rfl
        by_cases a : W i = W k
        · rw [if_pos a]
          by_cases b : P i < P k
          · rw [if_pos b, if_pos (Or.inr ⟨a, Or.inl b⟩)]
          · rw [if_neg b]
            by_cases c : P k = P i
            · rw [if_pos c]
              by_cases d : k ≤ i
              · rw [if_pos d, if_neg (by omega)]; try rfl
              · rw [if_neg d, if_pos (by omega)]
            · rw [if_neg c, if_neg (by omega)]; try rfl
        · rw [if_neg a, if_neg a]
          by_cases b : W k < W i
          · rw [if_pos b, if_pos (Or.inl b)]
          · rw [if_neg b, if_neg (by omega)]; try rfl)
      (nI 0) jFU (pz_jFU (by omega)) rfl
    rw [e, hs]
  have key := pzL (F := f_X10_hammerByWear_L7 m 0 x) (n := n) (fun k => decide (nI (zRank P W n k) = x)) (fun k => (nI k, 0))
    (fun fu => by rw [f_X10_hammerByWear_L7, if_pos (by decide), show (0 : Int32).toNatClampNeg = 0 from rfl, hm, if_pos (nI_le (Nat.le_refl _) (by omega))])
    (fun fu k hk => by
      rw [f_X10_hammerByWear_L7, if_pos (by decide), show (0 : Int32).toNatClampNeg = 0 from rfl, hm, if_neg (nI_ge hk (by omega)), show f_X10_hammerByWear_L22 m (nI k) jFU 0 0 = f_X10_hammerByWear_L22 m (nI k) jFU (nI 0) (nI 0) from rfl, inner k hk, z_bind, nI_1]
      simp only [decide_eq_true_eq])
    jFU (pz_jFU (by omega))
  unfold f_X10_hammerByWear
  rw [show f_X10_hammerByWear_L7 m 0 x jFU 0 = f_X10_hammerByWear_L7 m 0 x jFU (nI 0) from rfl, key]
  by_cases h : pzf (fun k => decide (nI (zRank P W n k) = x)) n < n
  · rw [if_pos h, if_pos h]; rfl
  · rw [if_neg h, if_neg h]; rfl

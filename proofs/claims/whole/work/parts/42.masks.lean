/-! PURE: masks of fitting hammers, counts of ones, the least over sets -/
abbrev zPc (a : Nat) : Nat := fb_ct (fun k => a.testBit k) 12
set_option maxRecDepth 100000 in
theorem j6_bits : (List.range 4096).all (fun a => decide (f_J6_bitCount_0f7a4 (nI a) = some (nI (zPc a)))) = true := by decide +kernel
theorem j6_bitCount {a : Nat} (ha : a < 4096) : f_J6_bitCount_0f7a4 (nI a) = some (nI (zPc a)) := co_dec j6_bits ha
theorem z_bitv {a k : Nat} (ha : a < 2147483648) (hk : k < 31) : (nI a >>> (nI k &&& 31)) &&& 1 = nI (if a.testBit k = true then 1 else 0) := by
  rw [pk_shrN ha (nI k &&& 31) k (z_sl k (by omega))]
  have := fa_mask (a / 2 ^ k) 1
  rw [show nI (2 ^ 1 - 1) = (1 : Int32) from rfl] at this
  rw [this, Nat.testBit_eq_decide_div_mod_eq]
  have lt : a / 2 ^ k % 2 < 2 := Nat.mod_lt _ (by omega)
  by_cases c : a / 2 ^ k % 2 = 1
  · rw [c]; rfl
  · rw [show a / 2 ^ k % 2 = 0 by omega]; rfl
theorem x10_ones {a : Nat} (ha : a < 2147483648) : f_X10_ones (nI a) = some (nI (zPc a)) := by
  obtain ⟨s, hs, e⟩ := pzG (F := f_X10_ones_L4 (nI a)) (n := 12) (fun k s => s = nI (fb_ct (fun k => a.testBit k) k))
    (fun fu s _ => by rw [f_X10_ones_L4, if_pos (by decide)])
    (fun fu k s hk hs => by
      refine ⟨_, rfl, ?_⟩
      rw [f_X10_ones_L4, if_neg (show ¬ (12 : Int32) ≤ nI k from nI_ge (b := 12) hk (by omega)), z_bitv ha (by omega), hs, nI_add, nI_1, fb_ct_succ])
    (nI 0) jFU (pz_jFU (by omega)) rfl
  unfold f_X10_ones
  rw [show f_X10_ones_L4 (nI a) jFU 0 0 = f_X10_ones_L4 (nI a) jFU (nI 0) (nI 0) from rfl, e, z_bind, hs]
/-- the mask of those with p -/
def zMsk (p : Nat → Bool) : Nat → Nat
  | 0 => 0
  | h + 1 => zMsk p h ||| (if p h = true then 2 ^ h else 0)
theorem zMsk_bit (p : Nat → Bool) (h : Nat) : ∀ n, (zMsk p n).testBit h = (decide (h < n) && p h) := by
  intro n
  induction n with
  | zero => simp [zMsk]
  | succ n ih =>
    unfold zMsk
    rw [Nat.testBit_or, ih]
    by_cases c : p n = true
    · rw [if_pos c, Nat.testBit_two_pow]
      by_cases e : h = n
      · subst e; simp [c]
      · have e' : ¬ n = h := fun q => e q.symm
        have : decide (h < n + 1) = decide (h < n) := by
          by_cases z : h < n
          · simp [z, Nat.lt_succ_of_lt z]
          · have z' : ¬ h < n + 1 := by omega
            simp [z, z']
        simp [e', this]
    · rw [if_neg c]
      by_cases e : h = n
      · subst e; simp at c; simp [c]
      · have : decide (h < n + 1) = decide (h < n) := by
          by_cases z : h < n
          · simp [z, Nat.lt_succ_of_lt z]
          · have z' : ¬ h < n + 1 := by omega
            simp [z, z']
        simp [this]
theorem zMsk_lt (p : Nat → Bool) : ∀ n, zMsk p n < 2 ^ n := by
  intro n
  induction n with
  | zero => simp [zMsk]
  | succ n ih =>
    unfold zMsk
    have a : zMsk p n < 2 ^ (n + 1) := Nat.lt_trans ih (Nat.pow_lt_pow_right (by omega) (by omega))
    refine Nat.or_lt_two_pow a ?_
    split
    · exact Nat.pow_lt_pow_right (by omega) (by omega)
    · exact Nat.two_pow_pos _
theorem zMsk_4096 (p : Nat → Bool) {n : Nat} (hn : n ≤ 12) : zMsk p n < 4096 := Nat.lt_of_lt_of_le (zMsk_lt p n) (by rw [show 4096 = 2 ^ 12 from rfl]; exact Nat.pow_le_pow_right (by omega) hn)
theorem z_jmin {a b : Nat} (ha : a < 2147483648) (hb : b < 2147483648) : jmin (nI a) (nI b) = nI (if b < a then b else a) := by
  unfold jmin
  by_cases c : b < a
  · rw [if_pos (nI_lt c ha), if_pos c]
  · rw [if_neg (nI_nlt (by omega) (by omega)), if_neg c]
theorem x4_load {n q b : Nat} (gc : Int32) (gf0 hp hw hs hd rp rt rf rl bh bf bl : Nat → Int32) (hn : n ≤ 12) (hq : q ≤ 8) (hb : b ≤ 480) : ∃ gf, f_X4_load gc gf0 (nI n) hp hw hs hd (nI q) rp rt rf rl (nI b) bh bf bl = some (nI q, gf) ∧ ∀ r, r < q → gf r = nI (zMsk (fun h => zMay hp hw hs hd rp rt rf rl b bh bf bl r h) n) := by
  have inner : ∀ r, r < q → f_X4_load_L31 (nI n) hp hw hs hd (nI q) rp rt rf rl (nI b) bh bf bl (nI r) jFU (nI 0) (nI 0) = some (nI n, nI (zMsk (fun h => zMay hp hw hs hd rp rt rf rl b bh bf bl r h) n)) := by
    intro r hr
    obtain ⟨s, hs', e⟩ := pzG (F := f_X4_load_L31 (nI n) hp hw hs hd (nI q) rp rt rf rl (nI b) bh bf bl (nI r)) (n := n) (fun k s => s = nI (zMsk (fun h => zMay hp hw hs hd rp rt rf rl b bh bf bl r h) k))
      (fun fu s _ => by
        rw [f_X4_load_L31]; unfold f_X2_size
        rw [z_bind, if_pos (nI_le (Nat.le_refl _) (by omega))])
      (fun fu k s hk hs' => by
        refine ⟨_, rfl, ?_⟩
        rw [f_X4_load_L31]; unfold f_X2_size
        rw [z_bind, if_neg (nI_ge hk (by omega)), x8_suits hp hw hs hd rp rt rf rl bh bf bl hn hq hb hr hk, z_bind, nI_1, z_one k (by omega), hs', fa_or]
        by_cases c : zMay hp hw hs hd rp rt rf rl b bh bf bl r k = true
        · rw [if_pos c, if_neg z_n10, zMsk, if_pos c]
        · rw [if_neg c, if_pos rfl, zMsk, if_neg c, Nat.or_zero])
      (nI 0) jFU (pz_jFU (by omega)) rfl
    rw [e, hs']
  obtain ⟨s, hs', e⟩ := pzG (F := f_X4_load_L18 (nI q) (nI n) hp hw hs hd (nI q) rp rt rf rl (nI b) bh bf bl) (n := q) (fun k s => ∀ r, r < k → s r = nI (zMsk (fun h => zMay hp hw hs hd rp rt rf rl b bh bf bl r h) n))
    (fun fu s _ => by rw [f_X4_load_L18, if_pos (nI_le (Nat.le_refl _) (by omega))])
    (fun fu k s hk hs' => by
      refine ⟨upd s k (nI (zMsk (fun h => zMay hp hw hs hd rp rt rf rl b bh bf bl k h) n)), fun r hr => ?_, ?_⟩
      · by_cases c : r = k
        · rw [c, z_upds]
        · rw [z_updn _ c]; exact hs' r (by omega)
      · rw [f_X4_load_L18, if_neg (nI_ge hk (by omega)), show f_X4_load_L31 (nI n) hp hw hs hd (nI q) rp rt rf rl (nI b) bh bf bl (nI k) jFU 0 0 = f_X4_load_L31 (nI n) hp hw hs hd (nI q) rp rt rf rl (nI b) bh bf bl (nI k) jFU (nI 0) (nI 0) from rfl, inner k hk, z_bind, if_pos (show jin (nI k) 8 = true by rw [z_jin (by omega)]; simp; omega), z_cl (by omega), nI_1])
    gf0 jFU (pz_jFU (by omega)) (fun r hr => by omega)
  refine ⟨s, ?_, hs'⟩
  unfold f_X4_load f_X5_size
  rw [z_bind, show jmin (nI q) 8 = nI q by rw [show (8 : Int32) = nI 8 from rfl, z_jmin (by omega) (by omega), if_neg (by omega)], show ∀ z, f_X4_load_L18 (nI q) (nI n) hp hw hs hd (nI q) rp rt rf rl (nI b) bh bf bl jFU 0 z = f_X4_load_L18 (nI q) (nI n) hp hw hs hd (nI q) rp rt rf rl (nI b) bh bf bl jFU (nI 0) z from fun _ => rfl, e, z_bind]
theorem x10_worksFitting {n q b T : Nat} {P W L B D : Nat → Nat} {hc rc rn bc : Int32} {hp hw hs hb hd ht ri rb rp rt rf rl bh bb bf bl m : Nat → Int32} (gf0 : Nat → Int32) (H : zRH n P W L B D T hc hp hw hs hb hd ht m) (R : zRR q T rc rn ri rb rp rt rf rl m) (G : zRB b n T bc bh bb bf bl m) : ∃ gf, f_X10_worksFitting m gf0 = some gf ∧ ∀ r, r < q → gf r = nI (zMsk (fun h => zMay hp hw hs hd rp rt rf rl b bh bf bl r h) n) := by
  have n12 := H.1
  have hm0 := H.2.2.1
  have q8 := R.1
  have hm4 := R.2.2.1
  have inner : ∀ r (g0 : Nat → Int32), r < q → g0 r = nI 0 → ∃ g, f_X10_worksFitting_L21 m (nI r) jFU (nI 0) g0 = some (nI n, g) ∧ g r = nI (zMsk (fun h => zMay hp hw hs hd rp rt rf rl b bh bf bl r h) n) ∧ ∀ j, j ≠ r → g j = g0 j := by
    intro r g0 hr h0
    obtain ⟨s, hs', e⟩ := pzG (F := f_X10_worksFitting_L21 m (nI r)) (n := n) (fun k (s : Nat → Int32) => s r = nI (zMsk (fun h => zMay hp hw hs hd rp rt rf rl b bh bf bl r h) k) ∧ ∀ j, j ≠ r → s j = g0 j)
      (fun fu s _ => by
        rw [f_X10_worksFitting_L21, if_pos (by decide), show (0 : Int32).toNatClampNeg = 0 from rfl, hm0, if_pos (nI_le (Nat.le_refl _) (by omega))])
      (fun fu k s hk hs' => by
        have jr : jin (nI r) 8 = true := by rw [z_jin (by omega)]; simp; omega
        rw [f_X10_worksFitting_L21, if_pos (by decide), show (0 : Int32).toNatClampNeg = 0 from rfl, hm0, if_neg (nI_ge hk (by omega))]
        simp only [x10_may H R G hr hk, z_bind, jr, if_true, z_cl (show r < 2147483648 by omega), nI_1, z_one k (show k < 31 by omega), hs'.1, fa_or]
        by_cases c : zMay hp hw hs hd rp rt rf rl b bh bf bl r k = true
        · refine ⟨upd s r (nI (zMsk (fun h => zMay hp hw hs hd rp rt rf rl b bh bf bl r h) (k + 1))), ⟨z_upds _ _ _, fun j hj => by rw [z_updn _ hj]; exact hs'.2 j hj⟩, ?_⟩
          rw [if_pos c, if_neg z_n10, zMsk, if_pos c]
        · refine ⟨upd s r (nI (zMsk (fun h => zMay hp hw hs hd rp rt rf rl b bh bf bl r h) (k + 1))), ⟨z_upds _ _ _, fun j hj => by rw [z_updn _ hj]; exact hs'.2 j hj⟩, ?_⟩
          rw [if_neg c, if_pos rfl, zMsk, if_neg c, show (0 : Int32) = nI 0 from rfl, fa_or])
      g0 jFU (pz_jFU (by omega)) ⟨h0, fun j _ => rfl⟩
    exact ⟨s, e, hs'.1, hs'.2⟩
  obtain ⟨s, hs', e⟩ := pzG (F := f_X10_worksFitting_L2 m) (n := q) (fun k (s : Nat → Int32) => ∀ r, r < k → s r = nI (zMsk (fun h => zMay hp hw hs hd rp rt rf rl b bh bf bl r h) n))
    (fun fu s _ => by rw [f_X10_worksFitting_L2, if_pos (by decide), show (4 : Int32).toNatClampNeg = 4 from rfl, hm4, if_pos (nI_le (Nat.le_refl _) (by omega))])
    (fun fu k s hk hs' => by
      obtain ⟨g, g1, g2, g3⟩ := inner k (upd s k 0) hk (z_upds _ _ _)
      refine ⟨g, fun r hr => ?_, ?_⟩
      · by_cases c : r = k
        · rw [c]; exact g2
        · rw [g3 r c, z_updn _ c]; exact hs' r (by omega)
      · rw [f_X10_worksFitting_L2, if_pos (by decide), show (4 : Int32).toNatClampNeg = 4 from rfl, hm4, if_neg (nI_ge hk (by omega)), if_pos (show jin (nI k) 8 = true by rw [z_jin (by omega)]; simp; omega), z_cl (by omega), show ∀ z, f_X10_worksFitting_L21 m (nI k) jFU 0 z = f_X10_worksFitting_L21 m (nI k) jFU (nI 0) z from fun _ => rfl, g1, z_bind, nI_1])
    gf0 jFU (pz_jFU (by omega)) (fun r hr => by omega)
  refine ⟨s, ?_, hs'⟩
  unfold f_X10_worksFitting
  rw [show f_X10_worksFitting_L2 m jFU 0 gf0 = f_X10_worksFitting_L2 m jFU (nI 0) gf0 from rfl, e, z_bind]
/-! the least over sets -/
theorem ct_far {p : Nat → Bool} {a b : Nat} (h : a ≤ b) (no : ∀ k, a ≤ k → k < b → p k = false) : fb_ct p b = fb_ct p a := by
  obtain ⟨c, rfl⟩ : ∃ c, b = a + c := ⟨b - a, by omega⟩
  rw [fb_ct_split, fb_ct_zero.mpr (fun k hk => no (a + k) (by omega) (by omega)), Nat.add_zero]
theorem zbit_far {a k n : Nat} (h : a < 2 ^ n) (hk : n ≤ k) : a.testBit k = false := Nat.testBit_lt_two_pow (Nat.lt_of_lt_of_le h (Nat.pow_le_pow_right (by omega) hk))
theorem zNear_lt (mk : Nat → Nat) (S : Nat → Bool) (q : Nat) (h : ∀ r, r < q → mk r < 4096) : ∀ k, k ≤ q → zNear mk S k < 4096 := by
  intro k
  induction k with
  | zero => intro _; show (0 : Nat) < 4096; omega
  | succ k ih =>
    intro hk
    unfold zNear
    refine Nat.or_lt_two_pow (n := 12) (ih (by omega)) ?_
    split
    · exact h k (by omega)
    · decide
theorem x4_fittingAny {q set : Nat} {mk : Nat → Nat} {gf : Nat → Int32} (hq : q ≤ 8) (hgf : ∀ r, r < q → gf r = nI (mk r)) : f_X4_fittingAny (nI q) gf (nI set) = some (nI (zNear mk (fun k => set.testBit k) q)) := by
  obtain ⟨s, hs, e⟩ := pzG (F := f_X4_fittingAny_L4 (nI q) gf (nI set)) (n := q) (fun k s => s = nI (zNear mk (fun k => set.testBit k) k))
    (fun fu s _ => by rw [f_X4_fittingAny_L4, if_pos (nI_le (Nat.le_refl _) (by omega))])
    (fun fu k s hk hs => by
      refine ⟨_, rfl, ?_⟩
      rw [f_X4_fittingAny_L4, if_neg (nI_ge hk (by omega)), z_one k (by omega), nI_1]
      simp only [z_and0 (show k < 31 by omega)]
      rw [zNear]
      by_cases c : set.testBit k = false
      · rw [if_pos c, if_neg (by rw [c]; decide), Nat.or_zero, hs]
      · rw [if_neg c, if_pos (show jin (nI k) 8 = true by rw [z_jin (by omega)]; simp; omega), z_cl (by omega), hgf k hk, hs, fa_or, if_pos (by simpa using c)])
    (nI 0) jFU (pz_jFU (by omega)) rfl
  unfold f_X4_fittingAny
  rw [show f_X4_fittingAny_L4 (nI q) gf (nI set) jFU 0 0 = f_X4_fittingAny_L4 (nI q) gf (nI set) jFU (nI 0) (nI 0) from rfl, e, z_bind, hs]
theorem z_pow256 {q : Nat} (hq : q ≤ 8) : 2 ^ q ≤ 256 := by
  rw [show 256 = 2 ^ 8 from rfl]; exact Nat.pow_le_pow_right (by omega) hq
/-- of the masks of q requests a set -/
theorem zSetOf {q : Nat} (S : Nat → Bool) : ∃ set, set < 2 ^ q ∧ ∀ x, x < q → set.testBit x = S x := ⟨zMsk S q, zMsk_lt S q, fun x hx => by rw [zMsk_bit]; simp [hx]⟩
theorem zNear_cong {mk : Nat → Nat} {S S' : Nat → Bool} : ∀ {q : Nat}, (∀ x, x < q → S x = S' x) → zNear mk S q = zNear mk S' q := by
  intro q
  induction q with
  | zero => intro _; rfl
  | succ q ih => intro h; unfold zNear; rw [ih (fun x hx => h x (by omega)), h q (by omega)]
theorem zVal_cong {f q : Nat} {mk : Nat → Nat} {lf lf' S S' : Nat → Bool} (h : ∀ x, x < q → S x = S' x) (hl : ∀ k, k < 12 → lf k = lf' k) : zVal f q mk lf S = zVal f q mk lf' S' := by
  unfold zVal
  rw [zNear_cong h, fb_ct_cong (fun x hx => by rw [h x hx]), fb_ct_cong (p := fun k => (zNear mk S' q).testBit k && lf k) (fun k hk => by rw [hl k hk])]
theorem x4_greatestBySets {q : Nat} {mk : Nat → Nat} {gf : Nat → Int32} (hq : q ≤ 8) (hgf : ∀ r, r < q → gf r = nI (mk r)) (hmk : ∀ r, r < q → mk r < 4096) : ∃ G, f_X4_greatestBySets (nI q) gf = some (nI G) ∧ zMin 0 q mk (fun h => (4095 : Nat).testBit h) G := by
  have all1 : ∀ k, k < 12 → (4095 : Nat).testBit k = true := by decide
  have q256 := z_pow256 hq
  have vv : ∀ set, set < 2 ^ q → zVal 0 q mk (fun h => (4095 : Nat).testBit h) (fun k => set.testBit k) = (q - zPc set) + zPc (zNear mk (fun k => set.testBit k) q) ∧ zPc set ≤ q := by
    intro set hset
    have a : zPc set = fb_ct (fun k => set.testBit k) q := ct_far (by omega) (fun k hk _ => zbit_far hset hk)
    have b := fb_ct_not (fun k => set.testBit k) q
    constructor
    · unfold zVal
      rw [fb_ct_cong (q := fun k => !set.testBit k) (fun x hx => by simp), fb_ct_cong (n := 12) (q := fun k => (zNear mk (fun k => set.testBit k) q).testBit k) (fun k hk => by show (_ && (4095 : Nat).testBit k) = _; rw [all1 k hk, Bool.and_true])]
      have r : zPc (zNear mk (fun k => set.testBit k) q) = fb_ct (fun k => (zNear mk (fun k => set.testBit k) q).testBit k) 12 := rfl
      rw [r, a]
      omega
    · omega
  obtain ⟨s, hs, e⟩ := pzG (F := f_X4_greatestBySets_L7 (nI q) gf) (n := 2 ^ q) (fun k s => ∃ g, s = nI g ∧ g ≤ 8 ∧ (∀ set, set < k → g ≤ zVal 0 q mk (fun h => (4095 : Nat).testBit h) (fun k => set.testBit k)) ∧ ∃ set, set < 2 ^ q ∧ g = zVal 0 q mk (fun h => (4095 : Nat).testBit h) (fun k => set.testBit k))
    (fun fu s _ => by rw [f_X4_greatestBySets_L7, z_one q (by omega), if_pos (nI_le (Nat.le_refl _) (by omega))])
    (fun fu k s hk hs => by
      obtain ⟨g, rfl, g8, g1, g2⟩ := hs
      obtain ⟨v1, v2⟩ := vv k hk
      have nl := zNear_lt mk (fun j => k.testBit j) q hmk q (Nat.le_refl _)
      have p12 : zPc (zNear mk (fun j => k.testBit j) q) ≤ 12 := fb_ct_le _ _
      refine ⟨nI (if zVal 0 q mk (fun h => (4095 : Nat).testBit h) (fun j => k.testBit j) < g then zVal 0 q mk (fun h => (4095 : Nat).testBit h) (fun j => k.testBit j) else g), ⟨_, rfl, ?_, ?_, ?_⟩, ?_⟩
      · split <;> omega
      · intro set hset
        rcases Nat.lt_or_ge set k with a | a
        · have := g1 set a; split <;> omega
        · obtain rfl : set = k := by omega
          split <;> omega
      · by_cases c : zVal 0 q mk (fun h => (4095 : Nat).testBit h) (fun j => k.testBit j) < g
        · rw [if_pos c]; exact ⟨k, hk, rfl⟩
        · rw [if_neg c]; exact g2
      · rw [f_X4_greatestBySets_L7, z_one q (by omega), if_neg (nI_ge hk (by omega)), j6_bitCount (by omega), z_bind, x4_fittingAny hq hgf, z_bind, j6_bitCount nl, z_bind, pk_sub v2, nI_add, ← v1, z_jmin (by omega) (by omega), nI_1])
    (nI q) jFU (pz_jFU (by omega)) (by
      refine ⟨q, rfl, hq, fun set h => by omega, 0, Nat.two_pow_pos _, ?_⟩
      have z1 : zPc 0 = 0 := by decide
      have z2 : zNear mk (fun k => (0 : Nat).testBit k) q = 0 := by
        have : ∀ j, zNear mk (fun k => (0 : Nat).testBit k) j = 0 := by
          intro j
          induction j with
          | zero => rfl
          | succ j ih => unfold zNear; rw [ih]; simp
        exact this q
      rw [(vv 0 (Nat.two_pow_pos _)).1, z1, z2, z1]; omega)
  obtain ⟨g, rfl, g8, g1, set, h1, h2⟩ := hs
  refine ⟨g, ?_, fun S hS => ?_, fun k => decide (k < q) && set.testBit k, fun x hx => ?_, ?_⟩
  · unfold f_X4_greatestBySets
    rw [show f_X4_greatestBySets_L7 (nI q) gf jFU 0 (nI q) = f_X4_greatestBySets_L7 (nI q) gf jFU (nI 0) (nI q) from rfl, e, z_bind]
  · obtain ⟨st, a, b⟩ := zSetOf (q := q) S
    have := g1 st a
    rw [zVal_cong (S' := S) (lf' := fun h => (4095 : Nat).testBit h) b (fun _ _ => rfl)] at this
    exact this
  · rw [Bool.and_eq_true, decide_eq_true_eq] at hx
    exact ⟨by omega, hx.1⟩
  · rw [h2]
    exact zVal_cong (fun x hx => by simp [hx]) (fun _ _ => rfl)
theorem x10_most {q f R A : Nat} {mk : Nat → Nat} {gf m : Nat → Int32} (hq : q ≤ 8) (hm : m 4 = nI q) (hgf : ∀ r, r < q → gf r = nI (mk r)) (hmk : ∀ r, r < q → mk r < 4096) (hR : ∀ x, R.testBit x = (decide (f ≤ x) && decide (x < q))) (hRlt : R < 4096) (hA : A < 4096) : ∃ G, f_X10_most m gf (nI R) (nI A) = some (nI G) ∧ zMin f q mk (fun h => A.testBit h) G := by
  have q256 := z_pow256 hq
  have vv : ∀ set, set < 2 ^ q → zVal f q mk (fun h => A.testBit h) (fun k => set.testBit k) = zPc (R ^^^ (R &&& set)) + zPc (zNear mk (fun k => set.testBit k) q &&& A) := by
    intro set hset
    unfold zVal
    have a : zPc (R ^^^ (R &&& set)) = fb_ct (fun x => decide (f ≤ x) && !set.testBit x) q := by
      rw [show zPc (R ^^^ (R &&& set)) = fb_ct (fun x => (R ^^^ (R &&& set)).testBit x) q from ct_far (by omega) (fun k hk _ => by
        rw [Nat.testBit_xor, Nat.testBit_and, hR]
        have : ¬ k < q := by omega
        simp [this])]
      refine fb_ct_cong (fun x hx => ?_)
      rw [Nat.testBit_xor, Nat.testBit_and, hR]
      cases decide (f ≤ x) <;> cases set.testBit x <;> simp [hx]
    rw [a]
    congr 1
    exact fb_ct_cong (fun k _ => by rw [Nat.testBit_and])
  have near : ∀ set, f_X10_most_L34 m gf (nI set) jFU (nI 0) (nI 0) = some (nI q, nI (zNear mk (fun k => set.testBit k) q)) ∨ ¬ set < 2147483648 := by
    intro set
    by_cases hset : set < 2147483648
    · obtain ⟨s, hs, e⟩ := pzG (F := f_X10_most_L34 m gf (nI set)) (n := q) (fun k s => s = nI (zNear mk (fun k => set.testBit k) k))
        (fun fu s _ => by rw [f_X10_most_L34, if_pos (by decide), show (4 : Int32).toNatClampNeg = 4 from rfl, hm, if_pos (nI_le (Nat.le_refl _) (by omega))])
        (fun fu k s hk hs => by
          refine ⟨_, rfl, ?_⟩
          rw [f_X10_most_L34, if_pos (by decide), show (4 : Int32).toNatClampNeg = 4 from rfl, hm, if_neg (nI_ge hk (by omega)), nI_1]
          simp only [z_bit1 hset (show k < 31 by omega)]
          rw [zNear]
          by_cases c : set.testBit k = true
          · rw [if_pos c, if_pos (show jin (nI k) 8 = true by rw [z_jin (by omega)]; simp; omega), z_cl (by omega), hgf k hk, hs, fa_or, if_pos c]
          · rw [if_neg c, if_neg c, hs, show (0 : Int32) = nI 0 from rfl, fa_or])
        (nI 0) jFU (pz_jFU (by omega)) rfl
      exact Or.inl (by rw [e, hs])
    · exact Or.inr hset
  obtain ⟨s, hs, e⟩ := pzG (F := f_X10_most_L6 m gf (nI R) (nI A)) (n := 2 ^ q) (fun k s => ∃ g, s = nI g ∧ g ≤ 8 ∧ (∀ set, set < k → (∀ x, set.testBit x = true → f ≤ x) → g ≤ zVal f q mk (fun h => A.testBit h) (fun k => set.testBit k)) ∧ ((k = 0 ∧ g = 8) ∨ ∃ set, set < 2 ^ q ∧ (∀ x, set.testBit x = true → f ≤ x) ∧ g = zVal f q mk (fun h => A.testBit h) (fun k => set.testBit k)))
    (fun fu s _ => by rw [f_X10_most_L6, if_pos (by decide), show (4 : Int32).toNatClampNeg = 4 from rfl, hm, z_one q (by omega), if_pos (nI_le (Nat.le_refl _) (by omega))])
    (fun fu k s hk hs => by
      obtain ⟨g, rfl, g8, g1, g2⟩ := hs
      rw [f_X10_most_L6, if_pos (by decide), show (4 : Int32).toNatClampNeg = 4 from rfl, hm, z_one q (by omega), if_neg (nI_ge hk (by omega)), z_andn (nI k) (nI R), z_andn (nI R) (nI k), fa_and, fa_and, fb_xorI, fb_xorI, nI_1]
      have sub : (nI (k ^^^ (k &&& R)) = 0) = (∀ x, k.testBit x = true → f ≤ x) := by
        have lt : k ^^^ (k &&& R) < 4096 := Nat.xor_lt_two_pow (n := 12) (by omega) (Nat.lt_of_le_of_lt Nat.and_le_left (by omega))
        rw [show (0 : Int32) = nI 0 from rfl, z_eq (by omega) (by omega)]
        refine propext ⟨fun h x hx => ?_, fun h => ?_⟩
        · have a : (k ^^^ (k &&& R)).testBit x = false := by rw [h]; simp
          rw [Nat.testBit_xor, Nat.testBit_and, hx, hR] at a
          simp at a
          exact a.1
        · apply Nat.eq_of_testBit_eq
          intro x
          rw [Nat.testBit_xor, Nat.testBit_and, Nat.zero_testBit]
          cases e : k.testBit x
          · rfl
          · have a := h x e
            have b : x < q := by
              rcases Nat.lt_or_ge x q with z | z
              · exact z
              · rw [zbit_far hk z] at e; cases e
            rw [hR]; simp [a, b]
      by_cases c : ∀ x, k.testBit x = true → f ≤ x
      · rw [if_pos (show nI (k ^^^ (k &&& R)) = 0 by rw [sub]; exact c)]
        have nl := zNear_lt mk (fun j => k.testBit j) q hmk q (Nat.le_refl _)
        have l1 : R ^^^ (R &&& k) < 4096 := Nat.xor_lt_two_pow (n := 12) hRlt (Nat.lt_of_le_of_lt Nat.and_le_left hRlt)
        have l2 : zNear mk (fun j => k.testBit j) q &&& A < 4096 := Nat.lt_of_le_of_lt Nat.and_le_left nl
        have p1 : zPc (R ^^^ (R &&& k)) ≤ 12 := fb_ct_le _ _
        have p2 : zPc (zNear mk (fun j => k.testBit j) q &&& A) ≤ 12 := fb_ct_le _ _
        have v1 := vv k hk
        refine ⟨nI (if zVal f q mk (fun h => A.testBit h) (fun j => k.testBit j) < g then zVal f q mk (fun h => A.testBit h) (fun j => k.testBit j) else g), ⟨_, rfl, ?_, ?_, ?_⟩, ?_⟩
        · split <;> omega
        · intro set hset hs
          rcases Nat.lt_or_ge set k with a | a
          · have := g1 set a hs; split <;> omega
          · obtain rfl : set = k := by omega
            split <;> omega
        · by_cases d : zVal f q mk (fun h => A.testBit h) (fun j => k.testBit j) < g
          · rw [if_pos d]; exact Or.inr ⟨k, hk, c, rfl⟩
          · rw [if_neg d]
            rcases g2 with ⟨a, b⟩ | a
            · subst a b
              have : zVal f q mk (fun h => A.testBit h) (fun j => (0 : Nat).testBit j) ≤ 8 := by
                rw [v1]
                have z2 : zNear mk (fun k => (0 : Nat).testBit k) q = 0 := by
                  have : ∀ j, zNear mk (fun k => (0 : Nat).testBit k) j = 0 := by
                    intro j
                    induction j with
                    | zero => rfl
                    | succ j ih => unfold zNear; rw [ih]; simp
                  exact this q
                have z3 : zPc (zNear mk (fun k => (0 : Nat).testBit k) q &&& A) = 0 := by rw [z2, Nat.zero_and]; decide
                have z4 : zPc (R ^^^ (R &&& 0)) ≤ q := by
                  rw [show zPc (R ^^^ (R &&& 0)) = fb_ct (fun x => (R ^^^ (R &&& 0)).testBit x) q from ct_far (by omega) (fun k hk _ => by
                    rw [Nat.testBit_xor, Nat.testBit_and, hR]
                    have : ¬ k < q := by omega
                    simp [this])]
                  exact fb_ct_le _ _
                omega
              exact Or.inr ⟨0, Nat.two_pow_pos _, c, by omega⟩
            · exact Or.inr a
        · rw [show f_X10_most_L34 m gf (nI k) jFU 0 0 = f_X10_most_L34 m gf (nI k) jFU (nI 0) (nI 0) from rfl, (near k).resolve_right (by omega), z_bind, x10_ones (by omega), z_bind, fa_and, x10_ones (by omega), z_bind, nI_add, ← v1, z_jmin (by omega) (by omega)]
      · rw [if_neg (show ¬ nI (k ^^^ (k &&& R)) = 0 by rw [sub]; exact c)]
        refine ⟨nI g, ⟨g, rfl, g8, fun set hset hs => ?_, ?_⟩, rfl⟩
        · rcases Nat.lt_or_ge set k with a | a
          · exact g1 set a hs
          · obtain rfl : set = k := by omega
            exact absurd hs c
        · rcases g2 with ⟨a, b⟩ | a
          · subst a
            exact absurd (fun x hx => by simp at hx) c
          · exact Or.inr a)
    (nI 8) jFU (pz_jFU (by omega)) ⟨8, rfl, by omega, fun set h => by omega, Or.inl ⟨rfl, rfl⟩⟩
  obtain ⟨g, rfl, g8, g1, g2⟩ := hs
  rcases g2 with ⟨a, _⟩ | ⟨set, h1, h2, h3⟩
  · have := Nat.two_pow_pos q; omega
  · refine ⟨g, ?_, fun S hS => ?_, fun k => decide (k < q) && set.testBit k, fun x hx => ?_, ?_⟩
    · unfold f_X10_most
      rw [show f_X10_most_L6 m gf (nI R) (nI A) jFU 0 8 = f_X10_most_L6 m gf (nI R) (nI A) jFU (nI 0) (nI 8) from rfl, e, z_bind]
    · have a := zMsk_lt S q
      have b : ∀ x, x < q → (zMsk S q).testBit x = S x := fun x hx => by rw [zMsk_bit]; simp [hx]
      have := g1 (zMsk S q) a (fun x hx => by
        rw [zMsk_bit, Bool.and_eq_true] at hx
        exact (hS x hx.2).1)
      rw [zVal_cong (S' := S) (lf' := fun h => A.testBit h) b (fun _ _ => rfl)] at this
      exact this
    · rw [Bool.and_eq_true, decide_eq_true_eq] at hx
      exact ⟨h2 x hx.2, hx.1⟩
    · rw [h3]
      exact zVal_cong (fun x hx => by simp [hx]) (fun _ _ => rfl)

/-! PURE: the class' least swaps by its search -/
theorem x7_contentAt {c p : Nat} (hc : c < 262144) (hp : p < 6) : f_X7_contentAt (nI c) (nI p) = some (nI (cn c p)) := by
  unfold f_X7_contentAt
  rw [z_lmul, pk_shrN (by omega) (nI (3 * p) &&& 31) (3 * p) (z_sl (3 * p) (by omega))]
  have := fa_mask (c / 2 ^ (3 * p)) 3
  rw [show nI (2 ^ 3 - 1) = (7 : Int32) from rfl] at this
  rw [this]
  rfl
theorem x7_isMisplaced {c p : Nat} (hp : p < 6) : f_X7_isMisplaced (nI (cn c p)) (nI p) = some (if misB c p = true then 1 else 0) := by
  have lt := cn_lt c p
  unfold f_X7_isMisplaced misB nx
  generalize cn c p = v at lt
  match v, lt with
  | 0, _ => rfl
  | k + 1, h =>
    rw [if_neg (show ¬ nI (k + 1) = 0 from nI_ne0 (by omega) (by omega)), nI_pred]
    simp only [z_eq (show k < 2147483648 by omega) (show p < 2147483648 by omega)]
    by_cases e : k = p
    · subst e; simp
    · rw [if_neg e]
      have : Nat.beq k p = false := by rw [nbne]; exact e
      simp [this]
theorem x7_misplaced {c : Nat} (hc : c < 262144) : f_X7_misplaced (nI c) = some (nI (mis c)) := by
  obtain ⟨s, hs, e⟩ := pzG (F := f_X7_misplaced_L4 (nI c)) (n := 6) (fun k s => s = nI (fb_ct (misB c) k))
    (fun fu s _ => by rw [f_X7_misplaced_L4, if_pos (by decide)])
    (fun fu k s hk hs => by
      refine ⟨_, rfl, ?_⟩
      rw [f_X7_misplaced_L4, if_neg (show ¬ (6 : Int32) ≤ nI k from nI_ge (b := 6) hk (by omega)), x7_contentAt hc hk, z_bind, x7_isMisplaced hk, z_bind, hs, nI_1]
      simp only [fb_ct_succ]
      by_cases h : misB c k = true
      · rw [if_pos h, if_neg z_n10, if_pos h, nI_1]
      · rw [if_neg h, if_pos rfl, if_neg h]; try rfl)
    (nI 0) jFU (pz_jFU (by omega)) rfl
  unfold f_X7_misplaced
  rw [show f_X7_misplaced_L4 (nI c) jFU 0 0 = f_X7_misplaced_L4 (nI c) jFU (nI 0) (nI 0) from rfl, e, z_bind, hs]; rfl
theorem cx_lt (c i j : Nat) : cn c i ^^^ cn c j < 8 := Nat.xor_lt_two_pow (n := 3) (cn_lt c i) (cn_lt c j)
theorem sh_lt {d i : Nat} (hd : d < 8) (hi : i < 6) : d * 2 ^ (3 * i) < 2 ^ 18 := by
  have : d * 2 ^ (3 * i) < 8 * 2 ^ (3 * i) := Nat.mul_lt_mul_of_pos_right hd (Nat.two_pow_pos _)
  have e : 8 * 2 ^ (3 * i) = 2 ^ (3 * i + 3) := by rw [Nat.pow_add, Nat.mul_comm]
  rw [e] at this
  exact Nat.lt_of_lt_of_le this (Nat.pow_le_pow_right (by omega) (by omega))
theorem x7_swapped {c i j : Nat} (hc : c < 262144) (hi : i < 6) (hj : j < 6) : f_X7_swapped (nI c) (nI i) (nI j) = some (nI (swp c i j)) := by
  have hx := cx_lt c i j
  have s1 := sh_lt hx hi
  have s2 := sh_lt hx hj
  unfold f_X7_swapped swp
  rw [x7_contentAt hc hi, z_bind, x7_contentAt hc hj, z_bind, fb_xorI, z_lmul, z_lmul, pk_shlN (nI (3 * i) &&& 31) (3 * i) (z_sl (3 * i) (by omega)) (by omega), pk_shlN (nI (3 * j) &&& 31) (3 * j) (z_sl (3 * j) (by omega)) (by omega), fb_xorI, fb_xorI]
theorem cn_bit (c p t : Nat) : (cn c p).testBit t = (decide (t < 3) && c.testBit (3 * p + t)) := by
  unfold cn
  rw [show 8 = 2 ^ 3 from rfl, Nat.testBit_mod_two_pow, Nat.testBit_div_two_pow]
  rw [Nat.add_comm t (3 * p)]
theorem sh_bit {d i : Nat} (hd : d < 8) (m : Nat) : (d * 2 ^ (3 * i)).testBit m = (decide (3 * i ≤ m) && d.testBit (m - 3 * i)) := by
  rw [Nat.testBit_mul_two_pow]
theorem cn_sh {d i k : Nat} (hd : d < 8) : cn (d * 2 ^ (3 * i)) k = if k = i then d else 0 := by
  apply Nat.eq_of_testBit_eq
  intro t
  rw [cn_bit, sh_bit hd]
  by_cases c : k = i
  · subst c
    rw [if_pos rfl, show 3 * k + t - 3 * k = t by omega]
    by_cases h : t < 3
    · simp [h]
    · have : d.testBit t = false := Nat.testBit_lt_two_pow (Nat.lt_of_lt_of_le hd (by rw [show 8 = 2 ^ 3 from rfl]; exact Nat.pow_le_pow_right (by omega) (by omega)))
      simp [h, this]
  · rw [if_neg c, Nat.zero_testBit]
    by_cases h : t < 3
    · by_cases g : 3 * i ≤ 3 * k + t
      · have : d.testBit (3 * k + t - 3 * i) = false := Nat.testBit_lt_two_pow (Nat.lt_of_lt_of_le hd (by rw [show 8 = 2 ^ 3 from rfl]; exact Nat.pow_le_pow_right (by omega) (by omega)))
        simp [this]
      · simp [g]
    · simp [h]
theorem cn_xor (a b k : Nat) : cn (a ^^^ b) k = cn a k ^^^ cn b k := by
  apply Nat.eq_of_testBit_eq
  intro t
  rw [cn_bit, Nat.testBit_xor, Nat.testBit_xor, cn_bit, cn_bit]
  cases decide (t < 3) <;> simp
theorem cn_swp {c i j k : Nat} (hij : i ≠ j) : cn (swp c i j) k = if k = i then cn c j else if k = j then cn c i else cn c k := by
  unfold swp
  rw [cn_xor, cn_xor, cn_sh (cx_lt c i j), cn_sh (cx_lt c i j)]
  by_cases a : k = i
  · subst a
    rw [if_pos rfl, if_pos rfl, if_neg hij, Nat.xor_zero, ← Nat.xor_assoc, Nat.xor_self, Nat.zero_xor]
  · rw [if_neg a, if_neg a]
    by_cases b : k = j
    · subst b
      rw [if_pos rfl, if_pos rfl, Nat.xor_zero, Nat.xor_comm (cn c i), ← Nat.xor_assoc, Nat.xor_self, Nat.zero_xor]
    · rw [if_neg b, if_neg b, Nat.xor_zero, Nat.xor_zero]
theorem vB_alt {c : Nat} : vB c = true ↔ c < 262144 ∧ (∀ p, p < 6 → cn c p ≤ 6) ∧ (∀ p, p < 6 → cn c p ≤ 1 ∨ ∃ q, q < 6 ∧ cn c q + 1 = cn c p) ∧ ∀ p q, p < 6 → q < 6 → p ≠ q → cn c p ≠ 0 → cn c q ≠ cn c p := by
  rw [vB_iff]
  constructor
  · rintro ⟨h1, h2⟩
    refine ⟨h1, fun p hp => (h2 p hp).1, fun p hp => (h2 p hp).2.1, fun p q hp hq n h0 e => ?_⟩
    rcases Nat.lt_or_ge q p with z | z
    · rcases (h2 p hp).2.2 q z with y | y
      · exact h0 y
      · exact y e
    · rcases (h2 q hq).2.2 p (by omega) with y | y
      · exact h0 (by rw [← e]; exact y)
      · exact y e.symm
  · rintro ⟨h1, h2, h3, h4⟩
    refine ⟨h1, fun p hp => ⟨h2 p hp, h3 p hp, fun q hq => ?_⟩⟩
    by_cases z : cn c p = 0
    · exact Or.inl z
    · exact Or.inr (h4 p q hp (by omega) (by omega) z)
theorem vB_swp {c i j : Nat} (hv : vB c = true) (hi : i < 6) (hj : j < 6) (hij : i ≠ j) : vB (swp c i j) = true := by
  obtain ⟨h1, h2, h3, h4⟩ := vB_alt.mp hv
  -- the place that holds what k holds afterwards
  have tr : ∀ k, k < 6 → ∃ k', k' < 6 ∧ cn (swp c i j) k = cn c k' ∧ (k' = if k = i then j else if k = j then i else k) := by
    intro k hk
    refine ⟨if k = i then j else if k = j then i else k, ?_, ?_, rfl⟩
    · split
      · exact hj
      · split
        · exact hi
        · exact hk
    · rw [cn_swp hij]
      split
      · rfl
      · split <;> rfl
  have bk : ∀ k, k < 6 → ∃ k', k' < 6 ∧ cn (swp c i j) k' = cn c k := by
    intro k hk
    by_cases a : k = i
    · exact ⟨j, hj, by rw [cn_swp hij, if_neg (fun e => hij e.symm), if_pos rfl, a]⟩
    · by_cases b : k = j
      · exact ⟨i, hi, by rw [cn_swp hij, if_pos rfl, b]⟩
      · exact ⟨k, hk, by rw [cn_swp hij, if_neg a, if_neg b]⟩
  refine vB_alt.mpr ⟨?_, fun p hp => ?_, fun p hp => ?_, fun p q hp hq n h0 => ?_⟩
  · unfold swp
    exact Nat.xor_lt_two_pow (n := 18) (Nat.xor_lt_two_pow (n := 18) h1 (sh_lt (cx_lt c i j) hi)) (sh_lt (cx_lt c i j) hj)
  · obtain ⟨k, k1, k2, _⟩ := tr p hp
    rw [k2]; exact h2 k k1
  · obtain ⟨k, k1, k2, _⟩ := tr p hp
    rw [k2]
    rcases h3 k k1 with z | ⟨q, q1, q2⟩
    · exact Or.inl z
    · obtain ⟨q', a, b⟩ := bk q q1
      exact Or.inr ⟨q', a, by rw [b]; exact q2⟩
  · obtain ⟨k, k1, k2, k3⟩ := tr p hp
    obtain ⟨l, l1, l2, l3⟩ := tr q hq
    rw [k2] at h0 ⊢
    rw [l2]
    refine h4 k l k1 l1 ?_ h0
    rw [k3, l3]
    split <;> split <;> (try split) <;> (try split) <;> omega
theorem swp_comm (c i j : Nat) : swp c i j = swp c j i := by
  unfold swp
  rw [Nat.xor_comm (cn c j) (cn c i), Nat.xor_assoc, Nat.xor_assoc, Nat.xor_comm ((cn c i ^^^ cn c j) * 2 ^ (3 * i))]
theorem swp_self (c i : Nat) : swp c i i = c := by
  unfold swp
  rw [Nat.xor_self, Nat.zero_mul, Nat.xor_zero, Nat.xor_zero]
theorem wit1_of {c p : Nat} (h : wit1 c = true) (hp : p < 6) (hm : misB c p = true) (hb : ∀ q, q < p → misB c q = false) : wit c p = true := by
  unfold wit1 at h
  match p, hp with
  | 0, _ => simpa [hm] using h
  | 1, _ =>
    have b0 := hb 0 (by omega)
    simpa [hm, b0, wit] using h
  | 2, _ =>
    have b0 := hb 0 (by omega)
    have b1 := hb 1 (by omega)
    simpa [hm, b0, b1, wit] using h
  | 3, _ =>
    have b0 := hb 0 (by omega)
    have b1 := hb 1 (by omega)
    have b2 := hb 2 (by omega)
    simpa [hm, b0, b1, b2, wit] using h
  | 4, _ =>
    have b0 := hb 0 (by omega)
    have b1 := hb 1 (by omega)
    have b2 := hb 2 (by omega)
    have b3 := hb 3 (by omega)
    simpa [hm, b0, b1, b2, b3, wit] using h
  | 5, _ =>
    have b0 := hb 0 (by omega)
    have b1 := hb 1 (by omega)
    have b2 := hb 2 (by omega)
    have b3 := hb 3 (by omega)
    have b4 := hb 4 (by omega)
    simpa [hm, b0, b1, b2, b3, b4, wit] using h
theorem phi_facts {c : Nat} (hv : vB c = true) : (mis c = 0 ↔ phi c = 0) ∧ mis c ≤ 2 * phi c ∧ phi c ≤ 5 ∧ fb_ct (bgL c id) 6 ≤ mis c ∧ (∀ i j, i < 6 → j < 6 → phi c ≤ phi (swp c i j) + 1) ∧ (∀ p, p < 6 → misB c p = true → (∀ q, q < p → misB c q = false) → ∃ j, j < 6 ∧ phi (swp c p j) + 1 = phi c) := by
  have h := enu_all enu_pB hv
  unfold pB at h
  simp only [Bool.and_eq_true, List.all_eq_true, Nat.ble_eq, nbeq, misK_eq, phiK_eq, cyK_eq] at h
  obtain ⟨a1, a2, a3, a4, a5, a6⟩ := h
  have up : ∀ i j, i < j → j < 6 → phi c ≤ phi (swp c i j) + 1 := fun i j hij hj => by
    have mem : (i, j) ∈ prs := by
      have : ∀ i j : Fin 6, i.val < j.val → (i.val, j.val) ∈ prs := by decide
      exact this ⟨i, by omega⟩ ⟨j, hj⟩ hij
    exact a5 (i, j) mem
  refine ⟨?_, a2, a3, a4, fun i j hi hj => ?_, fun p hp hm hb => ?_⟩
  · rw [beq_iff_eq] at a1
    rw [← nbeq, ← nbeq, a1]
  · rcases Nat.lt_trichotomy i j with q | q | q
    · exact up i j q hj
    · subst q; rw [swp_self]; omega
    · rw [swp_comm]; exact up j i q hi
  · have w := wit1_of a6 hp hm hb
    unfold wit at w
    simp only [Bool.and_eq_true, nbeq, phiK_eq] at w
    refine ⟨nx c p, ?_, w.2⟩
    have h6 := (vB_alt.mp hv).2.1 p hp
    have m := w.1
    unfold misB at m
    simp only [Bool.and_eq_true, Nat.blt_eq] at m
    unfold nx
    split
    · next e => omega
    · next k e => omega
theorem x7_firstMisplaced {c : Nat} (hc : c < 262144) (h : mis c ≠ 0) : pzf (misB c) 6 < 6 ∧ f_X7_firstMisplaced (nI c) = some (nI (pzf (misB c) 6)) := by
  have lt : pzf (misB c) 6 < 6 := by
    rcases Nat.lt_or_ge (pzf (misB c) 6) 6 with q | q
    · exact q
    · have no := pzf_none.mp (Nat.le_antisymm (pzf_le (misB c) 6) q)
      refine absurd ?_ h
      unfold mis
      rw [ct_6, no 0 (by omega), no 1 (by omega), no 2 (by omega), no 3 (by omega), no 4 (by omega), no 5 (by omega)]
      rfl
  have key := pzL (F := f_X7_firstMisplaced_L2 (nI c)) (n := 6) (misB c) (fun k => nI k)
    (fun fu => by rw [f_X7_firstMisplaced_L2, if_pos (by decide)])
    (fun fu k hk => by
      rw [f_X7_firstMisplaced_L2, if_neg (show ¬ (6 : Int32) ≤ nI k from nI_ge (b := 6) hk (by omega)), x7_contentAt hc hk, z_bind, x7_isMisplaced hk, z_bind, nI_1]
      by_cases m : misB c k = true
      · rw [if_pos m, if_neg z_n10, if_pos m]
      · rw [if_neg m, if_neg m]
        first | rw [if_pos rfl] | rfl)
    jFU (pz_jFU (by omega))
  rw [if_pos lt] at key
  refine ⟨lt, ?_⟩
  unfold f_X7_firstMisplaced
  rw [show f_X7_firstMisplaced_L2 (nI c) jFU 0 = f_X7_firstMisplaced_L2 (nI c) jFU (nI 0) from rfl, key, z_bind]
  rfl
theorem x7_canSort : ∀ (s jd c : Nat), s ≤ 6 → s < jd → vB c = true → f_X7_canSort jd (nI c) (nI s) = some (if phi c ≤ s then 1 else 0) := by
  intro s
  induction s with
  | zero =>
    intro jd c _ hjd hv
    obtain ⟨jd, rfl⟩ : ∃ g, jd = g + 1 := ⟨jd - 1, by omega⟩
    obtain ⟨a1, a2, a3, a4, a5, a6⟩ := phi_facts hv
    have hc := (vB_alt.mp hv).1
    have m6 : mis c ≤ 6 := fb_ct_le _ _
    rw [f_X7_canSort, x7_misplaced hc, z_bind]
    by_cases z : mis c = 0
    · rw [z, if_pos (show nI 0 = 0 from rfl), if_pos (by rw [a1.mp z]; omega)]
    · rw [if_neg (nI_ne0 (by omega) (by omega)), if_pos (show nI 0 ≤ 0 by decide), if_neg (fun h => z (a1.mpr (by omega)))]
  | succ s ih =>
    intro jd c hs hjd hv
    obtain ⟨jd, rfl⟩ : ∃ g, jd = g + 1 := ⟨jd - 1, by omega⟩
    obtain ⟨a1, a2, a3, a4, a5, a6⟩ := phi_facts hv
    have hc := (vB_alt.mp hv).1
    have m6 : mis c ≤ 6 := fb_ct_le _ _
    rw [f_X7_canSort, x7_misplaced hc, z_bind]
    by_cases z : mis c = 0
    · rw [z, if_pos (show nI 0 = 0 from rfl), if_pos (by rw [a1.mp z]; omega)]
    · rw [if_neg (nI_ne0 (by omega) (by omega)), if_neg (show ¬ nI (s + 1) ≤ 0 from nI_nle (by omega) (by omega)), z_lmul]
      simp only [z_le (show mis c < 2147483648 by omega) (show 2 * (s + 1) < 2147483648 by omega)]
      by_cases pr : mis c ≤ 2 * (s + 1)
      · rw [if_pos pr]
        obtain ⟨hi, ef⟩ := x7_firstMisplaced hc z
        obtain ⟨j0, hj0, ej0⟩ := a6 _ hi (pzf_yes hi) (fun q hq => pzf_no hq)
        generalize pzf (misB c) 6 = i at hi ef ej0
        rw [ef, z_bind]
        -- the round over the second place
        have round := pzC (F := fun fu x (_ : Unit) => f_X7_canSort_L32 (f_X7_canSort jd) (nI i) (nI c) (nI (s + 1)) fu x) (n := 6)
            (I := fun k _ => ∀ j, j < k → swp c i j ≠ c → s < phi (swp c i j))
            (Q := fun o => (o = some (.inr (nI 6)) ∧ ∀ j, j < 6 → swp c i j ≠ c → s < phi (swp c i j)) ∨ (o = some (.inl 1) ∧ phi c ≤ s + 1))
            (fun fu _ hI => Or.inl ⟨by rw [f_X7_canSort_L32, if_pos (by decide)], hI⟩)
            (fun fu k _ hk hI => by
              rw [f_X7_canSort_L32, if_neg (show ¬ (6 : Int32) ≤ nI k from nI_ge (b := 6) hk (by omega)), x7_swapped hc hi hk, z_bind]
              by_cases e : swp c i k = c
              · rw [if_pos (by rw [e]), nI_1]
                refine Or.inr ⟨(), fun j h2 h3 => ?_, rfl⟩
                rcases Nat.lt_or_ge j k with y | y
                · exact hI j y h3
                · obtain rfl : j = k := by omega
                  exact absurd e h3
              · have ik : i ≠ k := fun q => e (by rw [q, swp_self])
                have vs := vB_swp hv hi hk ik
                have ls := (vB_alt.mp vs).1
                simp only [z_eq (show swp c i k < 2147483648 by omega) (show c < 2147483648 by omega), nI_pred, ih jd (swp c i k) (by omega) (by omega) vs, z_bind, nI_1]
                rw [if_neg e]
                by_cases f : phi (swp c i k) ≤ s
                · rw [if_pos f, if_neg z_n10]
                  exact Or.inl (Or.inr ⟨rfl, by have := a5 i k hi hk; omega⟩)
                · rw [if_neg f]
                  first | rw [if_pos rfl] | skip
                  refine Or.inr ⟨(), fun j h2 h3 => ?_, rfl⟩
                  rcases Nat.lt_or_ge j k with y | y
                  · exact hI j y h3
                  · obtain rfl : j = k := by omega
                    omega)
            6 0 () jFU rfl (pz_jFU (by omega)) (fun j h => by omega)
        rw [show f_X7_canSort_L32 (f_X7_canSort jd) (nI i) (nI c) (nI (s + 1)) jFU 0 = f_X7_canSort_L32 (f_X7_canSort jd) (nI i) (nI c) (nI (s + 1)) jFU (nI 0) from rfl]
        rcases round with ⟨e, f⟩ | ⟨e, f⟩
        · have e' : f_X7_canSort_L32 (f_X7_canSort jd) (nI i) (nI c) (nI (s + 1)) jFU (nI 0) = some (.inr (nI 6)) := e
          rw [e', z_bind, if_neg]
          · rfl
          · intro h
            have n : swp c i j0 ≠ c := fun q => by rw [q] at ej0; omega
            have := f j0 hj0 n
            omega
        · have e' : f_X7_canSort_L32 (f_X7_canSort jd) (nI i) (nI c) (nI (s + 1)) jFU (nI 0) = some (.inl 1) := e
          rw [e', z_bind, if_pos f]; rfl
      · rw [if_neg pr, if_neg (by omega)]
theorem x7_leastSwaps {c : Nat} (hv : vB c = true) : f_X7_leastSwaps (nI c) = some (nI (phi c)) := by
  have p5 := (phi_facts hv).2.2.1
  have key := pzL (F := f_X7_leastSwaps_L2 (nI c)) (n := 6) (fun s => decide (phi c ≤ s)) (fun s => nI s)
    (fun fu => by rw [f_X7_leastSwaps_L2, if_pos (by decide)])
    (fun fu k hk => by
      rw [f_X7_leastSwaps_L2, if_neg (show ¬ (6 : Int32) ≤ nI k from nI_ge (b := 6) hk (by omega)), x7_canSort k 16 c (by omega) (by omega) hv, z_bind, nI_1]
      simp only [decide_eq_true_eq]
      by_cases e : phi c ≤ k
      · rw [if_pos e, if_neg z_n10, if_pos e]
      · rw [if_neg e, if_neg e]
        first | rw [if_pos rfl] | rfl)
    jFU (pz_jFU (by omega))
  have e : pzf (fun s => decide (phi c ≤ s)) 6 = phi c := pzf_eq (by omega) (by simp) (fun j hj => by simp; omega)
  rw [e, if_pos (by omega)] at key
  unfold f_X7_leastSwaps
  rw [show f_X7_leastSwaps_L2 (nI c) jFU 0 = f_X7_leastSwaps_L2 (nI c) jFU (nI 0) from rfl, key, z_bind]
  rfl

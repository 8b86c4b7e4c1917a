/-! PURE: the value of a set of hammers as a chord -/
def zW (con : Nat → Nat → Nat) (S : Nat → Bool) (j : Nat) : Nat := fb_sm (fun i => if S i = true then con j i else 0) j
def zV (con : Nat → Nat → Nat) (S : Nat → Bool) (k : Nat) : Nat := fb_sm (fun j => if S j = true then zW con S j else 0) k
theorem zW_cong {con : Nat → Nat → Nat} {S S' : Nat → Bool} {j : Nat} (h : ∀ i, i < j → S i = S' i) : zW con S j = zW con S' j := by
  unfold zW
  exact fb_sm_cong (fun i hi => by rw [h i hi])
theorem zV_cong {con : Nat → Nat → Nat} {S S' : Nat → Bool} {k : Nat} (h : ∀ i, i < k → S i = S' i) : zV con S k = zV con S' k := by
  unfold zV
  refine fb_sm_cong (fun j hj => ?_)
  rw [h j hj, zW_cong (fun i hi => h i (by omega))]
theorem zV_succ (con : Nat → Nat → Nat) (S : Nat → Bool) (k : Nat) : zV con S (k + 1) = zV con S k + (if S k = true then zW con S k else 0) := rfl
theorem sm_zero {f : Nat → Nat} {n : Nat} (h : ∀ k, k < n → f k = 0) : fb_sm f n = 0 := by
  rw [fb_sm_cong (g := fun _ => 0) h, fb_sm_const, Nat.mul_zero]
theorem sm_far {f : Nat → Nat} {a b : Nat} (h : a ≤ b) (no : ∀ k, a ≤ k → k < b → f k = 0) : fb_sm f b = fb_sm f a := by
  obtain ⟨c, rfl⟩ : ∃ c, b = a + c := ⟨b - a, by omega⟩
  rw [fb_sm_split, sm_zero (fun k hk => no (a + k) (by omega) (by omega)), Nat.add_zero]
theorem zW_15 {con : Nat → Nat → Nat} {S : Nat → Bool} {j : Nat} (h : ∀ i, i < j → con j i ≤ 15) : zW con S j ≤ 15 * fb_ct S j := by
  have : ∀ k, k ≤ j → fb_sm (fun i => if S i = true then con j i else 0) k ≤ 15 * fb_ct S k := by
    intro k
    induction k with
    | zero => intro _; exact Nat.zero_le _
    | succ k ih =>
      intro hk
      have := ih (by omega)
      have := h k (by omega)
      rw [fb_sm_succ, fb_ct_succ]
      by_cases c : S k = true
      · rw [if_pos c, if_pos c]; omega
      · rw [if_neg c, if_neg c]; omega
  exact this j (Nat.le_refl _)
/-- pairs among m -/
def zC2 : Nat → Nat
  | 0 => 0
  | m + 1 => zC2 m + m
theorem zC2_mono {a b : Nat} (h : a ≤ b) : zC2 a ≤ zC2 b := by
  induction b with
  | zero => obtain rfl : a = 0 := by omega
            exact Nat.le_refl _
  | succ b ih =>
    rcases Nat.eq_or_lt_of_le h with rfl | q
    · exact Nat.le_refl _
    · have := ih (by omega); show zC2 a ≤ zC2 b + b; omega
theorem zV_bound {con : Nat → Nat → Nat} {S : Nat → Bool} {c : Nat} (h : ∀ i j, i < c → j < c → con i j ≤ 15) : ∀ d k, k + d = c → zV con S c + 15 * zC2 (fb_ct S k) ≤ zV con S k + 15 * zC2 (fb_ct S c) := by
  intro d
  induction d with
  | zero => intro k hk; rw [show k = c by omega]; omega
  | succ d ih =>
    intro k hk
    have := ih (k + 1) (by omega)
    rw [zV_succ, fb_ct_succ] at this
    by_cases q : S k = true
    · rw [if_pos q, if_pos q] at this
      have w := zW_15 (S := S) (j := k) (con := con) (fun i hi => h k i (by omega) (by omega))
      rw [show zC2 (fb_ct S k + 1) = zC2 (fb_ct S k) + fb_ct S k from rfl] at this
      omega
    · rw [if_neg q, if_neg q] at this; omega
theorem zV_660 {con : Nat → Nat → Nat} {S : Nat → Bool} {c k : Nat} (hc : c ≤ 12) (hk : k ≤ c) (h : ∀ i j, i < c → j < c → con i j ≤ 15) : zV con S k ≤ 990 := by
  have b := zV_bound (S := S) (c := k) (fun i j hi hj => h i j (by omega) (by omega)) k 0 (by omega)
  rw [show zV con S 0 = 0 from rfl] at b
  have m := zC2_mono (b := 12) (show fb_ct S k ≤ 12 by have := fb_ct_le S k; omega)
  have : zC2 12 = 66 := by decide
  omega
theorem x1_pair {cc : Nat → Int32} {i j : Nat} (hi : i < 12) (hj : j < 12) : f_X1_pair cc (nI i) (nI j) = some (cc (i * 12 + j)) := by
  unfold f_X1_pair
  rw [if_neg (nI_pos (by omega)), if_neg (show ¬ (12 : Int32) ≤ nI i from nI_ge (b := 12) hi (by omega)), if_neg (nI_pos (by omega)), if_neg (show ¬ (12 : Int32) ≤ nI j from nI_ge (b := 12) hj (by omega)), show nI i * 12 + nI j = nI (i * 12 + j) by rw [z_mull, nI_add], if_pos (by rw [z_jin (by omega)]; simp; omega), z_cl (by omega)]
section ZK
variable {c : Nat} {con : Nat → Nat → Nat} {cc : Nat → Int32}
theorem x1_withChosen {set k : Nat} (hc : c ≤ 12) (hcc : ∀ i j, i < c → j < c → cc (i * 12 + j) = nI (con i j)) (hk : k < c) (hs : ∀ i, k ≤ i → i < c → set.testBit i = false) : f_X1_withChosen (nI c) cc (nI k) (nI set) = some (nI (zW con (fun i => set.testBit i) k)) := by
  obtain ⟨s, hs', e⟩ := pzG (F := f_X1_withChosen_L5 (nI c) cc (nI k) (nI set)) (n := c) (fun q s => s = nI (fb_sm (fun i => if set.testBit i = true then con k i else 0) q))
    (fun fu s _ => by rw [f_X1_withChosen_L5, if_pos (nI_le (Nat.le_refl _) (by omega))])
    (fun fu q s hq hs' => by
      refine ⟨_, rfl, ?_⟩
      rw [f_X1_withChosen_L5, if_neg (nI_ge hq (by omega)), z_one q (by omega), nI_1, hs']
      simp only [z_and0 (a := set) (show q < 31 by omega), fb_sm_succ]
      by_cases b : set.testBit q = true
      · rw [if_neg (by rw [b]; decide), x1_pair (by omega) (by omega), z_bind, hcc k q hk hq, nI_add, if_pos b]
      · rw [if_pos (by simpa using b), if_neg b] <;> try rfl)
    (nI 0) jFU (pz_jFU (by omega)) rfl
  unfold f_X1_withChosen
  rw [show f_X1_withChosen_L5 (nI c) cc (nI k) (nI set) jFU 0 0 = f_X1_withChosen_L5 (nI c) cc (nI k) (nI set) jFU (nI 0) (nI 0) from rfl, e, z_bind, hs']
  have : fb_sm (fun i => if set.testBit i = true then con k i else 0) c = zW con (fun i => set.testBit i) k := by
    unfold zW
    exact sm_far (by omega) (fun i h1 h2 => by rw [hs i h1 h2]; rfl)
  rw [this]
theorem x1_consonanceOf {set : Nat} (hc : c ≤ 12) (hcc : ∀ i j, i < c → j < c → cc (i * 12 + j) = nI (con i j)) (_sym : ∀ i j, i < c → j < c → con i j = con j i) : f_X1_consonanceOf (nI c) cc (nI set) = some (nI (zV con (fun i => set.testBit i) c)) := by
  obtain ⟨s, hs', e⟩ := pzG (F := f_X1_consonanceOf_L4 (nI c) cc (nI set)) (n := c) (fun q s => s = nI (zV con (fun i => set.testBit i) q))
    (fun fu s _ => by rw [f_X1_consonanceOf_L4, if_pos (nI_le (Nat.le_refl _) (by omega))])
    (fun fu q s hq hs' => by
      refine ⟨_, rfl, ?_⟩
      rw [f_X1_consonanceOf_L4, if_neg (nI_ge hq (by omega)), z_ones q (by omega), z_one q (by omega), fa_mask, nI_1, hs', zV_succ]
      simp only [z_and0 (a := set) (show q < 31 by omega)]
      by_cases b : set.testBit q = true
      · have low : zW con (fun i => (set % 2 ^ q).testBit i) q = zW con (fun i => set.testBit i) q := zW_cong (fun i hi => by
          show (set % 2 ^ q).testBit i = set.testBit i
          rw [Nat.testBit_mod_two_pow, decide_eq_true hi, Bool.true_and])
        rw [if_neg (by rw [b]; decide), x1_withChosen hc hcc hq (fun i h1 _ => by rw [Nat.testBit_mod_two_pow, decide_eq_false (by omega), Bool.false_and]), z_bind, nI_add, low, if_pos b]
      · rw [if_pos (by simpa using b), if_neg b] <;> try rfl)
    (nI 0) jFU (pz_jFU (by omega)) rfl
  unfold f_X1_consonanceOf
  rw [show f_X1_consonanceOf_L4 (nI c) cc (nI set) jFU 0 0 = f_X1_consonanceOf_L4 (nI c) cc (nI set) jFU (nI 0) (nI 0) from rfl, e, z_bind, hs']
end ZK

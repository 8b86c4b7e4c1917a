/-! PURE: the best chord is the best of all sets -/
def zMax (c a : Nat) (con : Nat → Nat → Nat) (v : Nat) : Prop := (∀ S, fb_ct S c = a → zV con S c ≤ v) ∧ ∃ S, fb_ct S c = a ∧ v = zV con S c
theorem zMax_one {c a v w : Nat} {con : Nat → Nat → Nat} (h : zMax c a con v) (g : zMax c a con w) : v = w := by
  obtain ⟨h1, S, h2, h3⟩ := h
  obtain ⟨g1, T, g2, g3⟩ := g
  have := h1 T g2
  have := g1 S h2
  omega
theorem ct_small {a : Nat} : ∀ c, a ≤ c → fb_ct (fun i => decide (i < a)) c = a := by
  intro c h
  rw [ct_far h (fun k h1 _ => decide_eq_false (by omega))]
  exact fb_ct_all.mpr (fun k hk => decide_eq_true hk)
section ZB
variable {c a : Nat} {con : Nat → Nat → Nat} {cc : Nat → Int32}
theorem x1_best (sz : Int32) (hc : c ≤ 12) (ha : a < 6) (hac : a ≤ c) (hcc : ∀ i j, i < c → j < c → cc (i * 12 + j) = nI (con i j)) (h15 : ∀ i j, i < c → j < c → con i j ≤ 15) : ∃ v, v ≤ 990 ∧ zMax c a con v ∧ f_X1_best (nI c) sz cc (nI a) = some (nI v, nI a) := by
  have z0 : ∀ k, fb_ct (fun i => (0 : Nat).testBit i) k = 0 := fun k => fb_ct_zero.mpr (fun i _ => Nat.zero_testBit i)
  have v0 : zV con (fun i => (0 : Nat).testBit i) c = 0 := sm_zero (fun j _ => by rw [if_neg (show ¬ (0 : Nat).testBit j = true by rw [Nat.zero_testBit]; decide)])
  obtain ⟨b', e, e1, e2, e3, e4⟩ := x1_extend (c := c) (a := a) (con := con) (cc := cc) hc ha hcc h15 16 0 0 0 (by omega) (fun i _ => Nat.zero_testBit i) (by omega) (by rw [z0]; omega) (by rw [z0]; omega) (by omega)
  have all : ∀ S, fb_ct S c = a → zCp c a 0 0 S := fun S h => ⟨fun i hi => by omega, h⟩
  have low := e3 _ (all _ (ct_small c hac))
  rcases e4 with e4 | ⟨S, e4, e5⟩
  · omega
  · refine ⟨zV con S c, by omega, ⟨fun T hT => ?_, S, e4.2, rfl⟩, ?_⟩
    · have := e3 T (all T hT); omega
    · unfold f_X1_best
      rw [v0] at e
      rw [show f_X1_extend 16 (nI c) (nI a) cc 0 0 0 (-1) = some (zN1 b') from e, z_bind, e5, zN1_s]
theorem z_oneN {c : Nat} (hc : c < 31) : (1 : Int32) <<< (nI c &&& 31) = nI (2 ^ c) := z_one c hc
theorem z_p12 {c : Nat} (hc : c ≤ 12) : 2 ^ c ≤ 4096 := by
  rw [show 4096 = 2 ^ 12 from rfl]; exact Nat.pow_le_pow_right (by omega) hc
theorem zPc_of {set c : Nat} (hc : c ≤ 12) (hs : set < 2 ^ c) : zPc set = fb_ct (fun i => set.testBit i) c := ct_far hc (fun i h1 _ => zbit_far hs h1)
theorem x1_bestBySets (hc : c ≤ 12) (ha : a < 6) (hac : a ≤ c) (hcc : ∀ i j, i < c → j < c → cc (i * 12 + j) = nI (con i j)) (h15 : ∀ i j, i < c → j < c → con i j ≤ 15) (sym : ∀ i j, i < c → j < c → con i j = con j i) : ∃ v, v ≤ 990 ∧ zMax c a con v ∧ f_X1_bestBySets (nI c) cc (nI a) = some (nI v) := by
  have p12 := z_p12 hc
  obtain ⟨s, ⟨b1, rfl, g1, g2, g3⟩, e⟩ := pzG (F := f_X1_bestBySets_L4 (nI c) cc (nI a)) (n := 2 ^ c) (fun q s => ∃ b1, s = zN1 b1 ∧ b1 ≤ 991 ∧ (∀ set, set < q → fb_ct (fun i => set.testBit i) c = a → zV con (fun i => set.testBit i) c + 1 ≤ b1) ∧ zHit c a con 0 0 0 b1)
    (fun fu s _ => by rw [f_X1_bestBySets_L4, z_oneN (by omega), if_pos (nI_le (Nat.le_refl _) (by omega))])
    (fun fu q s hq hs => by
      obtain ⟨b1, rfl, g1, g2, g3⟩ := hs
      have v1 := zV_660 (S := fun i => q.testBit i) hc (Nat.le_refl c) h15
      rw [f_X1_bestBySets_L4, z_oneN (by omega), if_neg (nI_ge hq (by omega)), j6_bitCount (by omega), z_bind, zPc_of hc hq, nI_1]
      by_cases cnt : fb_ct (fun i => q.testBit i) c = a
      · rw [if_pos (by rw [cnt]), x1_consonanceOf hc hcc sym, z_bind, zN1_max (by omega) (by omega)]
        refine ⟨_, ⟨_, rfl, ?_, fun set h1 h2 => ?_, ?_⟩, rfl⟩
        · clear g3; split <;> omega
        · clear g3
          rcases Nat.eq_or_lt_of_le (show set ≤ q by omega) with rfl | h
          · split <;> omega
          · have := g2 set h h2
            split <;> omega
        · by_cases b : b1 < zV con (fun i => q.testBit i) c + 1
          · rw [if_pos b]; exact Or.inr ⟨fun i => q.testBit i, ⟨fun i hi => by omega, cnt⟩, rfl⟩
          · rw [if_neg b]; exact g3
      · have lt := fb_ct_le (fun i => q.testBit i) c
        rw [if_neg (show ¬ nI (fb_ct (fun i => q.testBit i) c) = nI a by rw [z_eq (by omega) (by omega)]; exact cnt)]
        refine ⟨_, ⟨b1, rfl, g1, fun set h1 h2 => ?_, g3⟩, rfl⟩
        rcases Nat.eq_or_lt_of_le (show set ≤ q by omega) with rfl | h
        · exact absurd h2 cnt
        · exact g2 set h h2)
    (zN1 0) jFU (pz_jFU (by omega)) ⟨0, rfl, by omega, fun set h _ => by omega, Or.inl rfl⟩
  have all : ∀ S, fb_ct S c = a → zV con S c + 1 ≤ b1 := by
    intro S hS
    obtain ⟨set, s1, s2⟩ := zSetOf (q := c) S
    have := g2 set s1 (by rw [fb_ct_cong (q := S) s2]; exact hS)
    rw [zV_cong (S' := S) s2] at this
    exact this
  have low := all _ (ct_small c hac)
  rcases g3 with g3 | ⟨S, g3, g4⟩
  · omega
  · refine ⟨zV con S c, by omega, ⟨fun T hT => ?_, S, g3.2, rfl⟩, ?_⟩
    · have := all T hT; omega
    · unfold f_X1_bestBySets
      rw [show f_X1_bestBySets_L4 (nI c) cc (nI a) jFU 0 (-1) = f_X1_bestBySets_L4 (nI c) cc (nI a) jFU (nI 0) (zN1 0) from rfl, e, z_bind, g4, zN1_s]
end ZB
/-! the standing hammers by their rank -/
section ZRK
variable {n : Nat} {st : Nat → Bool}
theorem sm_rank {f g : Nat → Nat} : ∀ k, (∀ h, h < k → st h = true → f h = g (fb_ct st h)) → (∀ h, h < k → st h = false → f h = 0) → fb_sm f k = fb_sm g (fb_ct st k) := by
  intro k
  induction k with
  | zero => intro _ _; rfl
  | succ k ih =>
    intro h1 h2
    have := ih (fun h hh => h1 h (by omega)) (fun h hh => h2 h (by omega))
    rw [fb_sm_succ, fb_ct_succ, this]
    cases q : st k
    · rw [if_neg (by decide), h2 k (by omega) q]; rfl
    · rw [if_pos rfl, fb_sm_succ, h1 k (by omega) q]
theorem ct_rank {f g : Nat → Bool} : ∀ k, (∀ h, h < k → f h = (st h && g (fb_ct st h))) → fb_ct f k = fb_ct g (fb_ct st k) := by
  intro k
  induction k with
  | zero => intro _; rfl
  | succ k ih =>
    intro h1
    have := ih (fun h hh => h1 h (by omega))
    rw [fb_ct_succ, fb_ct_succ, this, h1 k (by omega)]
    cases q : st k
    · rw [Bool.false_and]; rfl
    · rw [if_pos rfl, fb_ct_succ, Bool.true_and]
theorem zV_rank {con con' : Nat → Nat → Nat} {S T : Nat → Bool} (hR : ∀ h, h < n → S h = (st h && T (fb_ct st h))) (hc : ∀ h g, h < n → g < n → st h = true → st g = true → con' h g = con (fb_ct st h) (fb_ct st g)) : zV con' S n = zV con T (fb_ct st n) := by
  unfold zV
  refine sm_rank n (fun h hh q => ?_) (fun h hh q => ?_)
  · rw [hR h hh, q, Bool.true_and]
    have : zW con' S h = zW con T (fb_ct st h) := by
      unfold zW
      refine sm_rank h (fun i hi r => ?_) (fun i hi r => ?_)
      · rw [hR i (by omega), r, Bool.true_and, hc h i hh (by omega) q r]
      · rw [hR i (by omega), r, Bool.false_and, if_neg (by decide)]
    rw [this]
  · rw [hR h hh, q, Bool.false_and, if_neg (by decide)]
/-- the standing hammer of a rank -/
def zEn (n : Nat) (st : Nat → Bool) (i : Nat) : Nat := pzf (fun h => st h && (fb_ct st h == i)) n
theorem zEn_of {h : Nat} (hh : h < n) (q : st h = true) : zEn n st (fb_ct st h) = h := by
  unfold zEn
  have c : pzf (fun g => st g && (fb_ct st g == fb_ct st h)) n < n := pzf_lt.mpr ⟨h, hh, by simp [q]⟩
  have y := pzf_yes c
  rw [Bool.and_eq_true, beq_iff_eq] at y
  exact fb_ct_kth_one y.1 q y.2
theorem zEn_ok {i : Nat} (hi : i < fb_ct st n) : zEn n st i < n ∧ st (zEn n st i) = true ∧ fb_ct st (zEn n st i) = i := by
  obtain ⟨h, h1, h2, h3⟩ := fb_ct_kth hi
  have := zEn_of h1 h2
  rw [h3] at this
  rw [this]
  exact ⟨h1, h2, h3⟩
/-- the greatest over sets of standing hammers is the greatest over sets of ranks -/
theorem zMax_rank {a v : Nat} {con con' : Nat → Nat → Nat} (hc : ∀ h g, h < n → g < n → st h = true → st g = true → con' h g = con (fb_ct st h) (fb_ct st g)) (h1 : ∀ S, (∀ h, h < n → S h = true → st h = true) → fb_ct S n = a → zV con' S n ≤ v) (h2 : ∃ S, (∀ h, h < n → S h = true → st h = true) ∧ fb_ct S n = a ∧ v = zV con' S n) : zMax (fb_ct st n) a con v := by
  refine ⟨fun T hT => ?_, ?_⟩
  · have R : ∀ h, h < n → (fun h => st h && T (fb_ct st h)) h = (st h && T (fb_ct st h)) := fun _ _ => rfl
    rw [← zV_rank R hc]
    refine h1 _ (fun h _ q => ?_) (by rw [ct_rank n R]; exact hT)
    rw [Bool.and_eq_true] at q
    exact q.1
  · obtain ⟨S, s1, s2, s3⟩ := h2
    have R : ∀ h, h < n → S h = (st h && (fun i => S (zEn n st i)) (fb_ct st h)) := by
      intro h hh
      cases q : st h
      · cases r : S h
        · rfl
        · have := s1 h hh r; rw [q] at this; cases this
      · show S h = (true && S (zEn n st (fb_ct st h)))
        rw [zEn_of hh q, Bool.true_and]
    exact ⟨fun i => S (zEn n st i), (ct_rank (f := S) (g := fun i => S (zEn n st i)) n R).symm.trans s2, s3.trans (zV_rank (S := S) (T := fun i => S (zEn n st i)) R hc)⟩
end ZRK

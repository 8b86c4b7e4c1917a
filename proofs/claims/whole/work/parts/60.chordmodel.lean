/-! PURE: the model's best chord -/
theorem z_sub0 {s k : Nat} : (nI s &&& (nI k ^^^ (-1)) = 0) = (s ^^^ (s &&& k) = 0 ∨ 2147483648 ≤ s ^^^ (s &&& k) ∧ nI (s ^^^ (s &&& k)) = 0) := by
  rw [z_andn, fa_and, fb_xorI]
  refine propext ⟨fun h => ?_, fun h => ?_⟩
  · rcases Nat.lt_or_ge (s ^^^ (s &&& k)) 2147483648 with q | q
    · rw [show (0 : Int32) = nI 0 from rfl, z_eq q (by omega)] at h; exact Or.inl h
    · exact Or.inr ⟨q, h⟩
  · rcases h with h | h
    · rw [h]; rfl
    · exact h.2
theorem z_subset {s k : Nat} (hs : s < 4096) : (nI s &&& (nI k ^^^ (-1)) = 0) = (∀ i, s.testBit i = true → k.testBit i = true) := by
  have lt : s ^^^ (s &&& k) < 2 ^ 12 := Nat.xor_lt_two_pow hs (Nat.lt_of_le_of_lt Nat.and_le_left hs)
  rw [z_sub0]
  refine propext ⟨fun h => ?_, fun h => Or.inl (Nat.eq_of_testBit_eq (fun i => ?_))⟩
  · rcases h with h | h
    · intro i hi
      have := Nat.testBit_xor s (s &&& k) i
      rw [h, Nat.zero_testBit, Nat.testBit_and, hi] at this
      cases q : k.testBit i
      · rw [q] at this; cases this
      · rfl
    · omega
  · rw [Nat.testBit_xor, Nat.testBit_and, Nat.zero_testBit]
    cases q : s.testBit i
    · rfl
    · rw [h i q]; rfl
theorem z_jmaxN {a b : Nat} (ha : a < 2147483648) (hb : b < 2147483648) : jmax (nI a) (nI b) = nI (if a < b then b else a) := by
  unfold jmax
  by_cases c : a < b
  · rw [if_pos (nI_lt c hb), if_pos c]
  · rw [if_neg (nI_nlt (by omega) (by omega)), if_neg c]
theorem zMskPc {st : Nat → Bool} {n : Nat} (hn : n ≤ 12) : zPc (zMsk st n) = fb_ct st n := by
  have e : zPc (zMsk st n) = fb_ct (fun i => (zMsk st n).testBit i) n := ct_far hn (fun i h1 _ => by rw [zMsk_bit, decide_eq_false (by omega), Bool.false_and])
  rw [e]
  exact fb_ct_cong (fun i hi => by rw [zMsk_bit, decide_eq_true hi, Bool.true_and])
section ZM
variable {n : Nat} {P L : Nat → Nat} {m : Nat → Int32}
theorem x10_pairs (p0 : Nat → Int32) (hn : n ≤ 12) (hm : m 0 = nI n) (hP : ∀ k, k < n → P k ≤ 60 ∧ m (8 + 6 * k) = nI (P k)) (hR : ∀ k, k < n → m (8 + 6 * k + 2) = zR (L k)) : ∃ pr, f_X10_bestChord_L27 m jFU 0 0 p0 = some (nI n, nI (zMsk (zSt L) n), pr) ∧ ∀ h g, h < n → g < h → pr (12 * h + g) = nI (zSd (P h) (P g)) := by
  have inner : ∀ h f, h < n → ∃ f', f_X10_bestChord_L65 m (nI h) jFU (nI 0) f = some (nI h, f') ∧ (∀ g, g < h → f' (12 * h + g) = nI (zSd (P h) (P g))) ∧ ∀ z, z < 12 * h → f' z = f z := by
    intro h f hh
    obtain ⟨f', ⟨f1, f2⟩, e⟩ := pzG (F := f_X10_bestChord_L65 m (nI h)) (n := h) (fun k g => (∀ j, j < k → g (12 * h + j) = nI (zSd (P h) (P j))) ∧ ∀ z, z < 12 * h → g z = f z)
      (fun fu g _ => by rw [f_X10_bestChord_L65, if_pos (nI_le (Nat.le_refl _) (by omega))])
      (fun fu k g hk hg => by
        obtain ⟨g1, g2⟩ := hg
        rw [f_X10_bestChord_L65, if_neg (nI_ge hk (by omega)), x10_sound hn hP hh (by omega), z_bind, show (12 : Int32) * nI h + nI k = nI (12 * h + k) by rw [z_lmul, nI_add], if_pos (by rw [z_jin (by omega)]; simp; omega), z_cl (by omega), nI_1]
        refine ⟨_, ⟨fun j hj => ?_, fun z hz => ?_⟩, rfl⟩
        · by_cases e : j = k
          · rw [e, z_upds]
          · rw [z_updn _ (by omega)]; exact g1 j (by omega)
        · rw [z_updn _ (by omega)]; exact g2 z hz)
      f jFU (pz_jFU (by omega)) ⟨fun j hj => by omega, fun z _ => rfl⟩
    exact ⟨f', e, f1, f2⟩
  obtain ⟨s, ⟨s1, s2⟩, e⟩ := pzG (F := fun fu k (s : Int32 × (Nat → Int32)) => f_X10_bestChord_L27 m fu k s.1 s.2) (n := n) (fun k s => s.1 = nI (zMsk (zSt L) k) ∧ ∀ h g, h < k → g < h → s.2 (12 * h + g) = nI (zSd (P h) (P g)))
    (fun fu s _ => by
      show f_X10_bestChord_L27 m (fu + 1) (nI n) s.1 s.2 = _
      rw [f_X10_bestChord_L27, if_pos (by decide), show (0 : Int32).toNatClampNeg = 0 from rfl, hm, if_pos (nI_le (Nat.le_refl _) (by omega))])
    (fun fu k s hk hs => by
      obtain ⟨s1, s2⟩ := hs
      obtain ⟨f', f1, f2, f3⟩ := inner k s.2 hk
      show ∃ s' : Int32 × (Nat → Int32), _ ∧ f_X10_bestChord_L27 m (fu + 1) (nI k) s.1 s.2 = f_X10_bestChord_L27 m fu (nI (k + 1)) s'.1 s'.2
      rw [f_X10_bestChord_L27, if_pos (by decide), show (0 : Int32).toNatClampNeg = 0 from rfl, hm, if_neg (nI_ge hk (by omega)), x10_hammerOf, z_bind, z_addl, if_pos (show jin (nI (8 + 6 * k + 2)) 2048 = true by rw [z_jin (by omega)]; simp; omega), z_cl (by omega), hR k hk, show f_X10_bestChord_L65 m (nI k) jFU 0 s.2 = _ from f1, z_bind, z_bind, nI_1, s1, z_one k (by omega), fa_or]
      have keep : ∀ h g, h < k + 1 → g < h → f' (12 * h + g) = nI (zSd (P h) (P g)) := by
        intro h g hh hg
        by_cases e : h = k
        · rw [e]; exact f2 g (by omega)
        · rw [f3 _ (by omega)]; exact s2 h g (by omega) hg
      by_cases c : 18 ≤ L k
      · rw [if_pos (show zR (L k) = -1 by rw [zR_m1]; exact c)]
        refine ⟨(nI (zMsk (zSt L) k), f'), ⟨?_, keep⟩, ?_⟩
        · show nI (zMsk (zSt L) k) = nI (zMsk (zSt L) k ||| (if zSt L k = true then 2 ^ k else 0))
          rw [if_neg (show ¬ zSt L k = true by unfold zSt; rw [decide_eq_false (by omega)]; decide), Nat.or_zero]
        · show f_X10_bestChord_L27 m fu (nI (k + 1)) (nI (zMsk (zSt L) k) ||| nI 0) f' = _
          rw [fa_or, Nat.or_zero]
      · rw [if_neg (show ¬ zR (L k) = -1 by rw [zR_m1]; exact c)]
        refine ⟨(nI (zMsk (zSt L) k ||| 2 ^ k), f'), ⟨?_, keep⟩, rfl⟩
        show nI (zMsk (zSt L) k ||| 2 ^ k) = nI (zMsk (zSt L) k ||| (if zSt L k = true then 2 ^ k else 0))
        rw [if_pos (show zSt L k = true from decide_eq_true (by omega))])
    (0, p0) jFU (pz_jFU (by omega)) ⟨rfl, fun h g hh => by omega⟩
  refine ⟨s.2, ?_, s2⟩
  rw [show f_X10_bestChord_L27 m jFU 0 0 p0 = some (nI n, s) from e, ← s1]
theorem x10_chord {set : Nat} {pr : Nat → Int32} {con : Nat → Nat → Nat} (hn : n ≤ 12) (hm : m 0 = nI n) (hset : set < 4096) (hpr : ∀ h g, h < n → g < h → pr (12 * h + g) = nI (con h g)) : f_X10_chord m pr (nI set) = some (nI (zV con (fun i => set.testBit i) n)) := by
  have inner : ∀ h a, h < n → f_X10_chord_L17 pr (nI h) (nI set) jFU (nI 0) (nI a) = some (nI h, nI (a + if set.testBit h = true then zW con (fun i => set.testBit i) h else 0)) := by
    intro h a hh
    obtain ⟨s, hs, e⟩ := pzG (F := f_X10_chord_L17 pr (nI h) (nI set)) (n := h) (fun k s => s = nI (a + if set.testBit h = true then fb_sm (fun i => if set.testBit i = true then con h i else 0) k else 0))
      (fun fu s _ => by rw [f_X10_chord_L17, if_pos (nI_le (Nat.le_refl _) (by omega))])
      (fun fu k s hk hs => by
        refine ⟨_, rfl, ?_⟩
        rw [f_X10_chord_L17, if_neg (nI_ge hk (by omega)), nI_1, hs, fb_sm_succ]
        simp only [z_bit1 (a := set) (show set < 2147483648 by omega) (show h < 31 by omega), z_bit1 (a := set) (show set < 2147483648 by omega) (show k < 31 by omega)]
        by_cases b : set.testBit h = true
        · rw [if_pos b, if_pos b, if_pos b]
          by_cases d : set.testBit k = true
          · rw [if_pos d, if_pos d, show (12 : Int32) * nI h + nI k = nI (12 * h + k) by rw [z_lmul, nI_add], if_pos (by rw [z_jin (by omega)]; simp; omega), z_cl (by omega), hpr h k hh hk, nI_add, Nat.add_assoc]
          · rw [if_neg d, if_neg d, Int32.add_zero] <;> try rfl
        · rw [if_neg b, if_neg b, if_neg b, Int32.add_zero] <;> try rfl)
      (nI a) jFU (pz_jFU (by omega)) (by
        by_cases b : set.testBit h = true
        · rw [if_pos b]; rfl
        · rw [if_neg b]; rfl)
    rw [e, hs]
    rfl
  obtain ⟨s, hs, e⟩ := pzG (F := f_X10_chord_L4 m pr (nI set)) (n := n) (fun q s => s = nI (zV con (fun i => set.testBit i) q))
    (fun fu s _ => by rw [f_X10_chord_L4, if_pos (by decide), show (0 : Int32).toNatClampNeg = 0 from rfl, hm, if_pos (nI_le (Nat.le_refl _) (by omega))])
    (fun fu q s hq hs => by
      refine ⟨_, rfl, ?_⟩
      rw [f_X10_chord_L4, if_pos (by decide), show (0 : Int32).toNatClampNeg = 0 from rfl, hm, if_neg (nI_ge hq (by omega)), nI_1, hs, show f_X10_chord_L17 pr (nI q) (nI set) jFU 0 (nI (zV con (fun i => set.testBit i) q)) = _ from inner q _ hq, z_bind, zV_succ])
    (nI 0) jFU (pz_jFU (by omega)) rfl
  unfold f_X10_chord
  rw [show f_X10_chord_L4 m pr (nI set) jFU 0 0 = f_X10_chord_L4 m pr (nI set) jFU (nI 0) (nI 0) from rfl, e, z_bind, hs]
/-- v is 0 or the value of a set of standing hammers -/
def zHitM (n a : Nat) (con : Nat → Nat → Nat) (st : Nat → Bool) (v : Nat) : Prop := v = 0 ∨ ∃ S, (∀ h, h < n → S h = true → st h = true) ∧ fb_ct S n = a ∧ v = zV con S n
theorem x10_chordMax {a : Nat} {pr : Nat → Int32} {con : Nat → Nat → Nat} {st : Nat → Bool} (hn : n ≤ 12) (hm : m 0 = nI n) (ha : a < 6) (hac : a ≤ fb_ct st n) (hpr : ∀ h g, h < n → g < h → pr (12 * h + g) = nI (con h g)) (h15 : ∀ h g, h < n → g < n → con h g ≤ 15) : ∃ v, v ≤ 990 ∧ f_X10_bestChord_L121 m pr (nI (zMsk st n)) (nI a) jFU 0 0 = some (nI (2 ^ n), nI v) ∧ (∀ S, (∀ h, h < n → S h = true → st h = true) → fb_ct S n = a → zV con S n ≤ v) ∧ ∃ S, (∀ h, h < n → S h = true → st h = true) ∧ fb_ct S n = a ∧ v = zV con S n := by
  have p12 := z_p12 hn
  obtain ⟨s, ⟨v, rfl, g1, g2, g3⟩, e⟩ := pzG (F := f_X10_bestChord_L121 m pr (nI (zMsk st n)) (nI a)) (n := 2 ^ n) (fun q s => ∃ v, s = nI v ∧ v ≤ 990 ∧ (∀ set, set < q → (∀ i, set.testBit i = true → (zMsk st n).testBit i = true) → fb_ct (fun i => set.testBit i) n = a → zV con (fun i => set.testBit i) n ≤ v) ∧ zHitM n a con st v)
    (fun fu s _ => by rw [f_X10_bestChord_L121, if_pos (by decide), show (0 : Int32).toNatClampNeg = 0 from rfl, hm, z_oneN (by omega), if_pos (nI_le (Nat.le_refl _) (by omega))])
    (fun fu q s hq hs => by
      obtain ⟨v, rfl, g1, g2, g3⟩ := hs
      have v1 := zV_660 (S := fun i => q.testBit i) hn (Nat.le_refl n) h15
      rw [f_X10_bestChord_L121, if_pos (by decide), show (0 : Int32).toNatClampNeg = 0 from rfl, hm, z_oneN (by omega), if_neg (nI_ge hq (by omega)), nI_1]
      have zs := z_subset (s := q) (k := zMsk st n) (show q < 4096 by omega)
      by_cases sub : ∀ i, q.testBit i = true → (zMsk st n).testBit i = true
      · rw [if_pos (show nI q &&& (nI (zMsk st n) ^^^ (-1)) = 0 by rw [zs]; exact sub), x10_ones (by omega), z_bind, zPc_of hn hq]
        by_cases cnt : fb_ct (fun i => q.testBit i) n = a
        · rw [if_pos (by rw [cnt]), x10_chord hn hm (by omega) hpr, z_bind, z_jmaxN (by omega) (by omega)]
          refine ⟨_, ⟨_, rfl, ?_, fun set h1 h2 h3 => ?_, ?_⟩, rfl⟩
          · clear g3; split <;> omega
          · clear g3
            rcases Nat.eq_or_lt_of_le (show set ≤ q by omega) with rfl | h
            · split <;> omega
            · have := g2 set h h2 h3
              split <;> omega
          · by_cases b : v < zV con (fun i => q.testBit i) n
            · rw [if_pos b]
              refine Or.inr ⟨fun i => q.testBit i, fun h hh hb => ?_, cnt, rfl⟩
              have := sub h hb
              rw [zMsk_bit, decide_eq_true hh, Bool.true_and] at this
              exact this
            · rw [if_neg b]; exact g3
        · have lt := fb_ct_le (fun i => q.testBit i) n
          rw [if_neg (show ¬ nI (fb_ct (fun i => q.testBit i) n) = nI a by rw [z_eq (by omega) (by omega)]; exact cnt)]
          refine ⟨_, ⟨v, rfl, g1, fun set h1 h2 h3 => ?_, g3⟩, rfl⟩
          rcases Nat.eq_or_lt_of_le (show set ≤ q by omega) with rfl | h
          · exact absurd h3 cnt
          · exact g2 set h h2 h3
      · rw [if_neg (show ¬ nI q &&& (nI (zMsk st n) ^^^ (-1)) = 0 by rw [zs]; exact sub)]
        refine ⟨_, ⟨v, rfl, g1, fun set h1 h2 h3 => ?_, g3⟩, rfl⟩
        rcases Nat.eq_or_lt_of_le (show set ≤ q by omega) with rfl | h
        · exact absurd h2 sub
        · exact g2 set h h2 h3)
    (nI 0) jFU (pz_jFU (by omega)) ⟨0, rfl, by omega, fun set h _ _ => by omega, Or.inl rfl⟩
  have all : ∀ S, (∀ h, h < n → S h = true → st h = true) → fb_ct S n = a → zV con S n ≤ v := by
    intro S sub hS
    obtain ⟨set, s1, s2⟩ := zSetOf (q := n) S
    have := g2 set s1 (fun i hi => by
      rcases Nat.lt_or_ge i n with q | q
      · rw [zMsk_bit, decide_eq_true q, Bool.true_and]
        exact sub i q (by rw [← s2 i q]; exact hi)
      · rw [zbit_far s1 q] at hi; cases hi) (by rw [fb_ct_cong (q := S) s2]; exact hS)
    rw [zV_cong (S' := S) s2] at this
    exact this
  refine ⟨v, g1, e, all, ?_⟩
  rcases g3 with g3 | g3
  · have R : ∀ h, h < n → (fun h => st h && (fun i => decide (i < a)) (fb_ct st h)) h = (st h && (fun i => decide (i < a)) (fb_ct st h)) := fun _ _ => rfl
    have c := (ct_rank n R).trans (ct_small _ hac)
    have s : ∀ h, h < n → (fun h => st h && (fun i => decide (i < a)) (fb_ct st h)) h = true → st h = true := fun h _ q => by
      rw [Bool.and_eq_true] at q
      exact q.1
    have := all _ s c
    exact ⟨_, s, c, by omega⟩
  · exact g3
end ZM

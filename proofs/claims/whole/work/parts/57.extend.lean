/-! PURE: the best chord, by the search that leaves out what can't be better -/
def zN1 (b : Nat) : Int32 := nI b - 1
theorem zN1_toInt {b : Nat} (h : b < 100000) : (zN1 b).toInt = (b : Int) - 1 := pk_sub_toInt (a := b) (b := 1) (by omega) (by omega)
theorem zN1_le {v b : Nat} (hv : v < 100000) (hb : b < 100000) : (nI v ≤ zN1 b) = (v + 1 ≤ b) := by
  rw [Int32.le_iff_toInt_le, zN1_toInt hb, nI_toInt (by omega)]
  exact propext (by omega)
theorem zN1_s {v : Nat} : zN1 (v + 1) = nI v := nI_pred v
theorem zN1_max {v b : Nat} (hv : v < 100000) (hb : b < 100000) : jmax (zN1 b) (nI v) = zN1 (if b < v + 1 then v + 1 else b) := by
  unfold jmax
  have : (zN1 b < nI v) = (b < v + 1) := by
    rw [Int32.lt_iff_toInt_lt, zN1_toInt hb, nI_toInt (by omega)]
    exact propext (by omega)
  by_cases c : b < v + 1
  · rw [if_pos (by rw [this]; exact c), if_pos c, zN1_s]
  · rw [if_neg (by rw [this]; exact c), if_neg c]
theorem x1_greatest : ∀ a, a < 6 → ∀ m, m ≤ a → f_X1_greatestStillToCome (nI a) (nI m) = some (nI (15 * (zC2 a - zC2 (a - m)))) := by decide +kernel
theorem x1_still {a m : Nat} (ha : a < 6) (hm : m ≤ a) : f_X1_greatestStillToCome (nI a) (nI m) = some (nI (15 * (zC2 a - zC2 (a - m)))) := x1_greatest a ha m hm
/-- a set of a that agrees with set below k -/
def zCp (c a set k : Nat) (S : Nat → Bool) : Prop := (∀ i, i < k → S i = set.testBit i) ∧ fb_ct S c = a
/-- b' is b, or the value of a set -/
def zHit (c a : Nat) (con : Nat → Nat → Nat) (set k b b' : Nat) : Prop := b' = b ∨ ∃ S, zCp c a set k S ∧ b' = zV con S c + 1
/-- what the search from k answers -/
def zEx (c a : Nat) (con : Nat → Nat → Nat) (set k b b' : Nat) : Prop := b ≤ b' ∧ b' ≤ 991 ∧ (∀ S, zCp c a set k S → zV con S c + 1 ≤ b') ∧ zHit c a con set k b b'
section ZE
variable {c a : Nat} {con : Nat → Nat → Nat} {cc : Nat → Int32}
theorem zBit_or {set k : Nat} (i : Nat) : (set ||| 2 ^ k).testBit i = (set.testBit i || decide (i = k)) := by
  rw [Nat.testBit_or, Nat.testBit_two_pow]
  by_cases c : i = k
  · subst c; simp
  · have : ¬ k = i := fun e => c e.symm
    simp [c, this]
theorem ct_first {S : Nat → Bool} {k c : Nat} (hk : k ≤ c) : fb_ct S c ≤ fb_ct S k + (c - k) := by
  obtain ⟨d, rfl⟩ : ∃ d, c = k + d := ⟨c - k, by omega⟩
  rw [fb_ct_split]
  have := fb_ct_le (fun i => S (k + i)) d
  omega
theorem ct_none {S : Nat → Bool} {k c : Nat} (hk : k ≤ c) (h : fb_ct S c ≤ fb_ct S k) : ∀ i, k ≤ i → i < c → S i = false := by
  obtain ⟨d, rfl⟩ : ∃ d, c = k + d := ⟨c - k, by omega⟩
  rw [fb_ct_split] at h
  intro i h1 h2
  have := fb_ct_zero.mp (show fb_ct (fun i => S (k + i)) d = 0 by omega) (i - k) (by omega)
  rw [show k + (i - k) = i by omega] at this
  exact this
theorem x1_extend (hc : c ≤ 12) (ha : a < 6) (hcc : ∀ i j, i < c → j < c → cc (i * 12 + j) = nI (con i j)) (h15 : ∀ i j, i < c → j < c → con i j ≤ 15) : ∀ (jd k set b : Nat), k ≤ c → (∀ i, k ≤ i → set.testBit i = false) → set < 4096 → fb_ct (fun i => set.testBit i) c ≤ a → a - fb_ct (fun i => set.testBit i) c < jd → b ≤ 991 → ∃ b', f_X1_extend jd (nI c) (nI a) cc (nI k) (nI set) (nI (zV con (fun i => set.testBit i) c)) (zN1 b) = some (zN1 b') ∧ zEx c a con set k b b' := by
  intro jd
  induction jd with
  | zero => intro _ _ _ _ _ _ _ h; omega
  | succ jd ih =>
    intro k set b hk hset hs4 hpa hjd hb
    have pc : zPc set = fb_ct (fun i => set.testBit i) c := by
      exact ct_far hc (fun i h1 h2 => hset i (by omega))
    have v0 := zV_660 (S := fun i => set.testBit i) hc (Nat.le_refl c) h15
    unfold f_X1_extend
    rw [j6_bitCount hs4, z_bind, pc, show nI a - nI (fb_ct (fun i => set.testBit i) c) = nI (a - fb_ct (fun i => set.testBit i) c) from pk_sub hpa]
    by_cases full : fb_ct (fun i => set.testBit i) c = a
    · rw [if_neg (show ¬ (0 : Int32) < nI (a - fb_ct (fun i => set.testBit i) c) by rw [full, Nat.sub_self]; decide), zN1_max (by omega) (by omega)]
      have one : ∀ S, zCp c a set k S → zV con S c = zV con (fun i => set.testBit i) c := by
        intro S ⟨s1, s2⟩
        have e1 : fb_ct S k = fb_ct (fun i => set.testBit i) k := fb_ct_cong s1
        have e2 : fb_ct (fun i => set.testBit i) c = fb_ct (fun i => set.testBit i) k := ct_far hk (fun i h1 h2 => hset i h1)
        have no := ct_none (S := S) hk (by omega)
        refine zV_cong (fun i hi => ?_)
        rcases Nat.lt_or_ge i k with q | q
        · exact s1 i q
        · rw [no i q hi, hset i q]
      refine ⟨_, rfl, ?_, ?_, ?_, ?_⟩
      · split <;> omega
      · split <;> omega
      · intro S hS; rw [one S hS]; split <;> omega
      · by_cases q : b < zV con (fun i => set.testBit i) c + 1
        · rw [if_pos q]; exact Or.inr ⟨fun i => set.testBit i, ⟨fun i _ => rfl, full⟩, rfl⟩
        · rw [if_neg q]; exact Or.inl rfl
    · have mis : 0 < a - fb_ct (fun i => set.testBit i) c := by omega
      rw [if_pos (show (0 : Int32) < nI (a - fb_ct (fun i => set.testBit i) c) from (z_lt (a := 0) (by omega) (by omega)).mpr mis)]
      have loop := pzC (F := fun fu x s => f_X1_extend_L34 (f_X1_extend jd) (nI c) (nI a) cc (nI (a - fb_ct (fun i => set.testBit i) c)) (nI set) (nI (zV con (fun i => set.testBit i) c)) fu x s) (n := c)
        (I := fun x s => k ≤ x ∧ ∃ b1, s = zN1 b1 ∧ b ≤ b1 ∧ b1 ≤ 991 ∧ (∀ S, zCp c a set k S → zCp c a set x S ∨ zV con S c + 1 ≤ b1) ∧ zHit c a con set k b b1)
        (Q := fun o => ∃ x b', o = some (x, zN1 b') ∧ zEx c a con set k b b')
        (fun fu s hs => by
          obtain ⟨hx, b1, rfl, g1, g2, g3, g4⟩ := hs
          refine ⟨nI c, b1, ?_, g1, g2, fun S hS => ?_, g4⟩
          · show f_X1_extend_L34 (f_X1_extend jd) (nI c) (nI a) cc (nI (a - fb_ct (fun i => set.testBit i) c)) (nI set) (nI (zV con (fun i => set.testBit i) c)) (fu + 1) (nI c) (zN1 b1) = _
            rw [f_X1_extend_L34, nI_add, if_pos (nI_lt (by omega) (by omega))]
          · rcases g3 S hS with q | q
            · have e1 : fb_ct S c = fb_ct (fun i => set.testBit i) c := fb_ct_cong q.1
              have := q.2
              omega
            · exact q)
        (fun fu x s hx hs => by
          obtain ⟨hkx, b1, rfl, g1, g2, g3, g4⟩ := hs
          have sx : ∀ i, x ≤ i → set.testBit i = false := fun i hi => hset i (by omega)
          have ctx : fb_ct (fun i => set.testBit i) c = fb_ct (fun i => set.testBit i) x := ct_far (by omega) (fun i h1 h2 => sx i h1)
          show (∃ y b', f_X1_extend_L34 (f_X1_extend jd) (nI c) (nI a) cc (nI (a - fb_ct (fun i => set.testBit i) c)) (nI set) (nI (zV con (fun i => set.testBit i) c)) (fu + 1) (nI x) (zN1 b1) = some (y, zN1 b') ∧ _) ∨ ∃ s', _ ∧ f_X1_extend_L34 (f_X1_extend jd) (nI c) (nI a) cc (nI (a - fb_ct (fun i => set.testBit i) c)) (nI set) (nI (zV con (fun i => set.testBit i) c)) (fu + 1) (nI x) (zN1 b1) = f_X1_extend_L34 (f_X1_extend jd) (nI c) (nI a) cc (nI (a - fb_ct (fun i => set.testBit i) c)) (nI set) (nI (zV con (fun i => set.testBit i) c)) fu (nI (x + 1)) s'
          rw [f_X1_extend_L34, nI_add]
          by_cases far : c < x + (a - fb_ct (fun i => set.testBit i) c)
          · rw [if_pos (nI_lt far (by omega))]
            refine Or.inl ⟨_, _, rfl, g1, g2, fun S hS => ?_, g4⟩
            rcases g3 S hS with q | q
            · have e1 : fb_ct S x = fb_ct (fun i => set.testBit i) x := fb_ct_cong q.1
              have := ct_first (S := S) (k := x) (c := c) (by omega)
              have := q.2
              omega
            · exact q
          · refine Or.inr ?_
            have nb : ∀ i, (set ||| 2 ^ x).testBit i = (set.testBit i || decide (i = x)) := zBit_or
            have s4 : set ||| 2 ^ x < 4096 := Nat.or_lt_two_pow (n := 12) hs4 (Nat.pow_lt_pow_right (by omega) (by omega))
            have nct : fb_ct (fun i => (set ||| 2 ^ x).testBit i) c = fb_ct (fun i => set.testBit i) c + 1 := by
              have u := fb_ct_upd (fun i => set.testBit i) true hx
              rw [if_neg (show ¬ set.testBit x = true by rw [sx x (Nat.le_refl _)]; decide), if_pos rfl] at u
              rw [← u, Nat.add_zero]
              refine fb_ct_cong (fun i _ => ?_)
              rw [nb]
              by_cases e : i = x
              · rw [if_pos e, decide_eq_true e, Bool.or_true]
              · rw [if_neg e, decide_eq_false e, Bool.or_false]
            have low : ∀ i, i < x → (set ||| 2 ^ x).testBit i = set.testBit i := fun i hi => by rw [nb, decide_eq_false (show ¬ i = x by omega), Bool.or_false]
            have nv1 : zV con (fun i => (set ||| 2 ^ x).testBit i) (x + 1) = zV con (fun i => set.testBit i) x + zW con (fun i => set.testBit i) x := by
              rw [zV_succ, if_pos (show (set ||| 2 ^ x).testBit x = true by rw [nb]; simp), zV_cong low, zW_cong low]
            have nv2 : zV con (fun i => set.testBit i) c = zV con (fun i => set.testBit i) x := by
              unfold zV
              exact sm_far (by omega) (fun i h1 h2 => by rw [if_neg (show ¬ set.testBit i = true by rw [sx i h1]; decide)])
            have nv3 : zV con (fun i => (set ||| 2 ^ x).testBit i) c = zV con (fun i => (set ||| 2 ^ x).testBit i) (x + 1) := by
              unfold zV
              exact sm_far (by omega) (fun i h1 h2 => by rw [if_neg (show ¬ (set ||| 2 ^ x).testBit i = true by rw [nb, sx i (by omega), decide_eq_false (show ¬ i = x by omega)]; decide)])
            have nv : zV con (fun i => set.testBit i) c + zW con (fun i => set.testBit i) x = zV con (fun i => (set ||| 2 ^ x).testBit i) c := by omega
            have v1 := zV_660 (S := fun i => (set ||| 2 ^ x).testBit i) hc (Nat.le_refl c) h15
            have cm := zC2_mono (show a ≤ 5 by omega)
            rw [show zC2 5 = 10 by decide] at cm
            rw [if_neg (show ¬ nI c < nI (x + (a - fb_ct (fun i => set.testBit i) c)) from nI_nlt (by omega) (by omega)), x1_withChosen hc hcc hx (fun i h1 h2 => sx i h1), z_bind, z_subl (by omega), x1_still ha (by omega), z_bind, nI_add, nI_add, nv, show a - (a - fb_ct (fun i => set.testBit i) c - 1) = fb_ct (fun i => set.testBit i) c + 1 by omega, nI_1, z_one x (by omega), fa_or]
            -- a set that agrees below x: it has x or not
            have two : ∀ S, zCp c a set x S → zCp c a set (x + 1) S ∨ zCp c a (set ||| 2 ^ x) (x + 1) S := by
              intro S ⟨s1, s2⟩
              cases q : S x
              · refine Or.inl ⟨fun i hi => ?_, s2⟩
                rcases Nat.lt_or_ge i x with z | z
                · exact s1 i z
                · obtain rfl : i = x := by omega
                  rw [q, sx i (Nat.le_refl _)]
              · refine Or.inr ⟨fun i hi => ?_, s2⟩
                rcases Nat.lt_or_ge i x with z | z
                · rw [low i z]; exact s1 i z
                · obtain rfl : i = x := by omega
                  rw [q, nb]; simp
            by_cases cut : zV con (fun i => (set ||| 2 ^ x).testBit i) c + 15 * (zC2 a - zC2 (fb_ct (fun i => set.testBit i) c + 1)) + 1 ≤ b1
            · rw [if_pos (by rw [zN1_le (by omega) (by omega)]; exact cut)]
              refine ⟨zN1 b1, ⟨by omega, b1, rfl, g1, g2, fun S hS => ?_, g4⟩, rfl⟩
              rcases g3 S hS with q | q
              · rcases two S q with r | r
                · exact Or.inl r
                · refine Or.inr ?_
                  have bd := zV_bound (S := S) (con := con) h15 (c - (x + 1)) (x + 1) (by omega)
                  have e1 : fb_ct S (x + 1) = fb_ct (fun i => set.testBit i) c + 1 := by
                    rw [fb_ct_cong r.1, ← nct]
                    exact (ct_far (by omega) (fun i h1 h2 => by rw [nb, sx i (by omega), decide_eq_false (show ¬ i = x by omega)]; rfl)).symm
                  have e2 : zV con S (x + 1) = zV con (fun i => (set ||| 2 ^ x).testBit i) c := by rw [zV_cong r.1, nv3]
                  rw [e1, e2, r.2] at bd
                  have := zC2_mono (show fb_ct (fun i => set.testBit i) c + 1 ≤ a by omega)
                  omega
              · exact Or.inr q
            · rw [if_neg (by rw [zN1_le (by omega) (by omega)]; exact cut)]
              obtain ⟨b2, e, f1, f2, f3, f4⟩ := ih (x + 1) (set ||| 2 ^ x) b1 (by omega) (fun i hi => by rw [nb, sx i (by omega), decide_eq_false (show ¬ i = x by omega)]; rfl) s4 (by omega) (by omega) g2
              rw [e, z_bind]
              refine ⟨zN1 b2, ⟨by omega, b2, rfl, by omega, f2, fun S hS => ?_, ?_⟩, rfl⟩
              · rcases g3 S hS with q | q
                · rcases two S q with r | r
                  · exact Or.inl r
                  · exact Or.inr (f3 S r)
                · exact Or.inr (by omega)
              · rcases f4 with f4 | ⟨S, f4, f5⟩
                · rw [f4]; exact g4
                · clear g4
                  refine Or.inr ⟨S, ⟨fun i hi => ?_, f4.2⟩, f5⟩
                  rw [f4.1 i (by omega), low i (by omega)])
        (c - k) k (zN1 b) jFU (by omega) (pz_jFU (by omega)) ⟨Nat.le_refl _, b, rfl, Nat.le_refl _, hb, fun S hS => Or.inl hS, Or.inl rfl⟩
      obtain ⟨x, b', e, z⟩ := loop
      rw [show jmax (nI k) (0 : Int32) = nI k by unfold jmax; rw [if_neg (nI_pos (by omega))]]
      refine ⟨b', ?_, z⟩
      rw [show f_X1_extend_L34 (f_X1_extend jd) (nI c) (nI a) cc (nI (a - fb_ct (fun i => set.testBit i) c)) (nI set) (nI (zV con (fun i => set.testBit i) c)) jFU (nI k) (zN1 b) = some (x, zN1 b') from e, z_bind]
end ZE

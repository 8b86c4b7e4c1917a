/-! PURE: arrangements as codes; the least number of swaps -/
def cn (c p : Nat) : Nat := c / 2 ^ (3 * p) % 8
def nx (c p : Nat) : Nat := match cn c p with
  | 0 => 6
  | k + 1 => k
def misB (c p : Nat) : Bool := Nat.blt 0 (cn c p) && !(Nat.beq (nx c p) p)
def wkL (c : Nat) (lab : Nat → Nat) (p : Nat) : Nat → Nat → Bool
  | 0, _ => false
  | f + 1, q => Nat.blt 0 (cn c q) && (Nat.beq q p || (Nat.blt (lab p) (lab q) && wkL c lab p f (nx c q)))
def bgL (c : Nat) (lab : Nat → Nat) (p : Nat) : Bool := misB c p && wkL c lab p 6 (nx c p)
def mis (c : Nat) : Nat := fb_ct (misB c) 6
def phi (c : Nat) : Nat := mis c - fb_ct (bgL c id) 6
/-! the same for the kernel: no recursion -/
def tn (b : Bool) : Nat := match b with
  | true => 1
  | false => 0
def wkS (F : Nat → Nat → Nat → Bool) (c p q : Nat) : Bool := Nat.blt 0 (cn c q) && (Nat.beq q p || (Nat.blt p q && F c p (nx c q)))
def wk6 : Nat → Nat → Nat → Bool := wkS (wkS (wkS (wkS (wkS (wkS (fun _ _ _ => false))))))
def bgK (c p : Nat) : Bool := misB c p && wk6 c p (nx c p)
def misK (c : Nat) : Nat := tn (misB c 0) + tn (misB c 1) + tn (misB c 2) + tn (misB c 3) + tn (misB c 4) + tn (misB c 5)
def cyK (c : Nat) : Nat := tn (bgK c 0) + tn (bgK c 1) + tn (bgK c 2) + tn (bgK c 3) + tn (bgK c 4) + tn (bgK c 5)
def phiK (c : Nat) : Nat := misK c - cyK c
theorem tn_if (b : Bool) : (if b = true then 1 else 0) = tn b := by cases b <;> rfl
theorem ct_6 (p : Nat → Bool) : fb_ct p 6 = tn (p 0) + tn (p 1) + tn (p 2) + tn (p 3) + tn (p 4) + tn (p 5) := by
  rw [fb_ct_succ, fb_ct_succ, fb_ct_succ, fb_ct_succ, fb_ct_succ, fb_ct_succ, tn_if, tn_if, tn_if, tn_if, tn_if, tn_if, show fb_ct p 0 = 0 from rfl, Nat.zero_add]
theorem misK_eq (c : Nat) : misK c = mis c := (ct_6 (misB c)).symm
theorem cyK_eq (c : Nat) : cyK c = fb_ct (bgL c id) 6 := (ct_6 (bgL c id)).symm
theorem phiK_eq (c : Nat) : phiK c = phi c := by unfold phiK phi; rw [misK_eq, cyK_eq]
def swp (c i j : Nat) : Nat := (c ^^^ ((cn c i ^^^ cn c j) * 2 ^ (3 * i))) ^^^ ((cn c i ^^^ cn c j) * 2 ^ (3 * j))
def vB (c : Nat) : Bool := Nat.blt c 262144 && (List.range 6).all (fun p => Nat.ble (cn c p) 6 && (Nat.ble (cn c p) 1 || (List.range 6).any (fun q => Nat.beq (cn c q + 1) (cn c p))) && (List.range p).all (fun q => Nat.beq (cn c p) 0 || !(Nat.beq (cn c q) (cn c p))))
def prs : List (Nat × Nat) := [(0, 1), (0, 2), (0, 3), (0, 4), (0, 5), (1, 2), (1, 3), (1, 4), (1, 5), (2, 3), (2, 4), (2, 5), (3, 4), (3, 5), (4, 5)]
def wit (c p : Nat) : Bool := misB c p && Nat.beq (phiK (swp c p (nx c p)) + 1) (phiK c)
/-- at the first misplaced hammer a swap with the place that it belongs in brings the sorted order nearer -/
def wit1 (c : Nat) : Bool := wit c 0 || (!(misB c 0) && (wit c 1 || (!(misB c 1) && (wit c 2 || (!(misB c 2) && (wit c 3 || (!(misB c 3) && (wit c 4 || (!(misB c 4) && (wit c 5 || !(misB c 5)))))))))))
def pB (c : Nat) : Bool := (Nat.beq (misK c) 0 == Nat.beq (phiK c) 0) && (Nat.ble (misK c) (2 * phiK c) && (Nat.ble (phiK c) 5 && (Nat.ble (cyK c) (misK c) && (prs.all (fun z => Nat.ble (phiK c) (phiK (swp c z.1 z.2) + 1)) && wit1 c))))
def okm (u : Nat) : Bool := [0, 1, 3, 7, 15, 31, 63].any (fun v => Nat.beq (u / 2) v)
/-- all codes, place by place -/
def enu (f : Nat → Bool) : Nat → Nat → Nat → Bool
  | 0, c, u => !(okm u) || f c
  | k + 1, c, u => [0, 1, 2, 3, 4, 5, 6].all (fun d => (Nat.blt 0 d && u.testBit d) || enu f k (c + d * 2 ^ (3 * (5 - k))) (u ||| 2 ^ d))
theorem nbeq (a b : Nat) : (Nat.beq a b = true) = (a = b) := propext ⟨Nat.eq_of_beq_eq_true, fun h => by subst h; exact Nat.beq_refl a⟩
theorem nbne (a b : Nat) : (Nat.beq a b = false) = (a ≠ b) := by
  show _ = ¬ (a = b)
  rw [← nbeq]
  cases Nat.beq a b <;> simp
theorem vB_iff {c : Nat} : vB c = true ↔ c < 262144 ∧ (∀ p, p < 6 → cn c p ≤ 6 ∧ (cn c p ≤ 1 ∨ ∃ q, q < 6 ∧ cn c q + 1 = cn c p) ∧ ∀ q, q < p → cn c p = 0 ∨ cn c q ≠ cn c p) := by
  unfold vB
  simp only [Bool.and_eq_true, List.all_eq_true, List.any_eq_true, Bool.or_eq_true, List.mem_range, Bool.not_eq_true', Nat.blt_eq, Nat.ble_eq, nbeq, nbne, and_assoc]
theorem cn_lt (c p : Nat) : cn c p < 8 := Nat.mod_lt _ (by omega)
theorem okm_of : ∀ v, v < 64 → (∀ t, t < 5 → v.testBit (t + 1) = true → v.testBit t = true) → ([0, 1, 3, 7, 15, 31, 63].any (fun w => Nat.beq v w)) = true := by decide +kernel
theorem enu_ok {f : Nat → Bool} {c : Nat} (hv : vB c = true) : ∀ (k u : Nat), k ≤ 6 → enu f k (c % 2 ^ (3 * (6 - k))) u = true → u < 128 → (∀ d, 0 < d → (u.testBit d = true ↔ ∃ q, q < 6 - k ∧ cn c q = d)) → f c = true := by
  intro k
  induction k with
  | zero =>
    intro u _ h u128 hu
    have e : c % 2 ^ (3 * (6 - 0)) = c := Nat.mod_eq_of_lt (by have := (vB_iff.mp hv).1; exact this)
    rw [e] at h
    unfold enu at h
    have ok : okm u = true := by
      unfold okm
      refine okm_of (u / 2) (by omega) (fun t ht hb => ?_)
      have b1 : ∀ s, (u / 2).testBit s = u.testBit (s + 1) := fun s => by rw [Nat.testBit_succ]
      rw [b1] at hb ⊢
      obtain ⟨q, q1, q2⟩ := (hu (t + 1 + 1) (by omega)).mp hb
      rcases ((vB_iff.mp hv).2 q q1).2.1 with z | ⟨q', z1, z2⟩
      · omega
      · exact (hu (t + 1) (by omega)).mpr ⟨q', z1, by omega⟩
    rw [ok] at h
    simpa using h
  | succ k ih =>
    intro u hk h u128 hu
    unfold enu at h
    rw [List.all_eq_true] at h
    have vv := (vB_iff.mp hv).2 (5 - k) (by omega)
    have hd := h (cn c (5 - k)) (by
      have : cn c (5 - k) ≤ 6 := vv.1
      generalize cn c (5 - k) = z at this
      match z, this with
      | 0, _ => simp
      | 1, _ => simp
      | 2, _ => simp
      | 3, _ => simp
      | 4, _ => simp
      | 5, _ => simp
      | 6, _ => simp)
    rw [Bool.or_eq_true] at hd
    have e0 : 6 - (k + 1) = 5 - k := by omega
    rw [e0] at hd hu
    rcases hd with hd | hd
    · rw [Bool.and_eq_true, Nat.blt_eq] at hd
      obtain ⟨q, q1, q2⟩ := (hu _ hd.1).mp hd.2
      rcases vv.2.2 q q1 with z | z
      · omega
      · exact absurd q2 z
    · refine ih (u ||| 2 ^ cn c (5 - k)) (by omega) ?_ (Nat.or_lt_two_pow (n := 7) u128 (Nat.pow_lt_pow_right (by omega) (by omega))) (fun d hd0 => ?_)
      · have e : c % 2 ^ (3 * (5 - k)) + cn c (5 - k) * 2 ^ (3 * (5 - k)) = c % 2 ^ (3 * (6 - k)) := by
          rw [show 3 * (6 - k) = 3 * (5 - k) + 3 by omega, Nat.pow_add, Nat.mod_mul]
          unfold cn
          rw [Nat.mul_comm (2 ^ (3 * (5 - k)))]
        rw [← e]
        exact hd
      · rw [Nat.testBit_or, Bool.or_eq_true, Nat.testBit_two_pow, decide_eq_true_eq, hu d hd0]
        constructor
        · rintro (⟨q, q1, q2⟩ | hb)
          · exact ⟨q, by omega, q2⟩
          · exact ⟨5 - k, by omega, hb⟩
        · rintro ⟨q, q1, q2⟩
          rcases Nat.lt_or_ge q (5 - k) with z | z
          · exact Or.inl ⟨q, z, q2⟩
          · obtain rfl : q = 5 - k := by omega
            exact Or.inr q2
theorem enu_all {f : Nat → Bool} (h : enu f 6 0 0 = true) {c : Nat} (hv : vB c = true) : f c = true := enu_ok hv 6 0 (Nat.le_refl _) (by rw [show c % 2 ^ (3 * (6 - 6)) = 0 from Nat.mod_one c]; exact h) (by omega) (fun d _ => ⟨fun hb => by simp at hb, fun ⟨q, q1, _⟩ => by omega⟩)
set_option maxRecDepth 100000 in
theorem enu_pB0 : enu pB 5 (0 + 0 * 2 ^ (3 * (5 - 5))) (0 ||| 2 ^ 0) = true := by decide +kernel
set_option maxRecDepth 100000 in
theorem enu_pB1 : enu pB 5 (0 + 1 * 2 ^ (3 * (5 - 5))) (0 ||| 2 ^ 1) = true := by decide +kernel
set_option maxRecDepth 100000 in
theorem enu_pB2 : enu pB 5 (0 + 2 * 2 ^ (3 * (5 - 5))) (0 ||| 2 ^ 2) = true := by decide +kernel
set_option maxRecDepth 100000 in
theorem enu_pB3 : enu pB 5 (0 + 3 * 2 ^ (3 * (5 - 5))) (0 ||| 2 ^ 3) = true := by decide +kernel
set_option maxRecDepth 100000 in
theorem enu_pB4 : enu pB 5 (0 + 4 * 2 ^ (3 * (5 - 5))) (0 ||| 2 ^ 4) = true := by decide +kernel
set_option maxRecDepth 100000 in
theorem enu_pB5 : enu pB 5 (0 + 5 * 2 ^ (3 * (5 - 5))) (0 ||| 2 ^ 5) = true := by decide +kernel
set_option maxRecDepth 100000 in
theorem enu_pB6 : enu pB 5 (0 + 6 * 2 ^ (3 * (5 - 5))) (0 ||| 2 ^ 6) = true := by decide +kernel
theorem enu_pB : enu pB 6 0 0 = true := by
  unfold enu
  simp only [List.all_cons, List.all_nil, enu_pB0, enu_pB1, enu_pB2, enu_pB3, enu_pB4, enu_pB5, enu_pB6, Bool.or_true, Bool.and_true]

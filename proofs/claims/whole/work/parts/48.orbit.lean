/-! PURE: closed cycles, counted by their least place or by their least label: the same number -/
def it (c : Nat) : Nat → Nat → Nat
  | 0, q => q
  | j + 1, q => it c j (nx c q)
theorem it_add (c : Nat) : ∀ i j q, it c (i + j) q = it c j (it c i q) := by
  intro i
  induction i with
  | zero => intro j q; rw [Nat.zero_add]; rfl
  | succ i ih => intro j q; rw [Nat.succ_add]; show it c (i + j) (nx c q) = _; rw [ih]; rfl
theorem it_1 (c q : Nat) : it c 1 q = nx c q := rfl
theorem wkL_iff (c : Nat) (lab : Nat → Nat) (p : Nat) : ∀ f q, wkL c lab p f q = true ↔ ∃ k, k < f ∧ it c k q = p ∧ (∀ j, j ≤ k → 0 < cn c (it c j q)) ∧ ∀ j, j < k → it c j q ≠ p ∧ lab p < lab (it c j q) := by
  intro f
  induction f with
  | zero => intro q; unfold wkL; simp
  | succ f ih =>
    intro q
    unfold wkL
    rw [Bool.and_eq_true, Bool.or_eq_true, Bool.and_eq_true, Nat.blt_eq, Nat.blt_eq, nbeq, ih]
    constructor
    · rintro ⟨h0, h1 | ⟨h1, k, k1, k2, k3, k4⟩⟩
      · refine ⟨0, by omega, h1, fun j hj => ?_, fun j hj => by omega⟩
        obtain rfl : j = 0 := by omega
        exact h0
      · by_cases e : q = p
        · refine ⟨0, by omega, e, fun j hj => ?_, fun j hj => by omega⟩
          obtain rfl : j = 0 := by omega
          exact h0
        · refine ⟨k + 1, by omega, k2, fun j hj => ?_, fun j hj => ?_⟩
          · cases j with
            | zero => exact h0
            | succ j => exact k3 j (by omega)
          · cases j with
            | zero => exact ⟨e, h1⟩
            | succ j => exact k4 j (by omega)
    · rintro ⟨k, k1, k2, k3, k4⟩
      refine ⟨k3 0 (by omega), ?_⟩
      cases k with
      | zero => exact Or.inl k2
      | succ k => exact Or.inr ⟨(k4 0 (by omega)).2, k, by omega, k2, fun j hj => k3 (j + 1) (by omega), fun j hj => k4 (j + 1) (by omega)⟩
/-- a place on a closed cycle of K > 1 places, the least of them by lab -/
def zCyc (c : Nat) (lab : Nat → Nat) (p K : Nat) : Prop := 2 ≤ K ∧ K ≤ 6 ∧ it c K p = p ∧ (∀ j, j < K → 0 < cn c (it c j p)) ∧ ∀ j, 0 < j → j < K → it c j p ≠ p ∧ lab p < lab (it c j p)
theorem bgL_iff {c : Nat} {lab : Nat → Nat} {p : Nat} : bgL c lab p = true ↔ ∃ K, zCyc c lab p K := by
  unfold bgL misB
  rw [Bool.and_eq_true, Bool.and_eq_true, Nat.blt_eq, Bool.not_eq_true', nbne, wkL_iff]
  constructor
  · rintro ⟨⟨h0, h1⟩, k, k1, k2, k3, k4⟩
    have kz : k ≠ 0 := by rintro rfl; exact h1 k2
    refine ⟨k + 1, by omega, by omega, k2, fun j hj => ?_, fun j hj1 hj2 => ?_⟩
    · cases j with
      | zero => exact h0
      | succ j => exact k3 j (by omega)
    · cases j with
      | zero => omega
      | succ j => exact k4 j (by omega)
  · rintro ⟨K, k1, k2, k3, k4, k5⟩
    obtain ⟨k, rfl⟩ : ∃ k, K = k + 1 := ⟨K - 1, by omega⟩
    refine ⟨⟨k4 0 (by omega), (k5 1 (by omega) (by omega)).1⟩, k, by omega, k3, fun j hj => ?_, fun j hj => k5 (j + 1) (by omega) (by omega)⟩
    rcases Nat.lt_or_ge j k with z | z
    · exact k4 (j + 1) (by omega)
    · obtain rfl : j = k := by omega
      have : it c j (nx c p) = p := k3
      rw [this]; exact k4 0 (by omega)
theorem it_per {c p K : Nat} (h : it c K p = p) : ∀ m j, it c (m * K + j) p = it c j p := by
  intro m
  induction m with
  | zero => intro j; rw [Nat.zero_mul, Nat.zero_add]
  | succ m ih => intro j; rw [Nat.succ_mul, Nat.add_assoc, Nat.add_comm (m * K) (K + j), Nat.add_assoc, it_add, h, Nat.add_comm j, ih]
theorem it_mod {c p K : Nat} (hK : 0 < K) (h : it c K p = p) (j : Nat) : it c j p = it c (j % K) p := by
  conv => lhs; rw [← Nat.div_add_mod j K, Nat.mul_comm]
  exact it_per h _ _
theorem nx_le {c q : Nat} (hv : vB c = true) (hq : q ≤ 6) : nx c q ≤ 6 := by
  unfold nx
  split
  · omega
  · next k e =>
    have := cn_lt c q
    omega
theorem it_le {c : Nat} (hv : vB c = true) : ∀ j q, q ≤ 6 → it c j q ≤ 6 := by
  intro j
  induction j with
  | zero => intro q h; exact h
  | succ j ih => intro q h; exact ih _ (nx_le hv h)
theorem cn_6 {c : Nat} (hc : c < 262144) : cn c 6 = 0 := by
  unfold cn
  rw [Nat.div_eq_of_lt (by exact hc)]
theorem cyc_lab {c : Nat} {lab lab' : Nat → Nat} (hv : vB c = true) (inj : ∀ x y, x < 6 → y < 6 → 0 < cn c x → 0 < cn c y → lab' x = lab' y → x = y) : fb_ct (bgL c lab) 6 ≤ fb_ct (bgL c lab') 6 := by
  have hc := (vB_alt.mp hv).1
  have key : ∀ p, p < 6 → bgL c lab p = true → ∃ s, s < 6 ∧ bgL c lab' s = true ∧ (∃ i, it c i p = s) ∧ ∃ i, it c i s = p := by
    intro p hp h
    obtain ⟨K, k1, k2, k3, k4, k5⟩ := bgL_iff.mp h
    obtain ⟨i, hi, hmin, _⟩ := fb_low (fun j => (lab' (it c j p) : Int)) (n := K) (by omega)
    have occ : ∀ j, 0 < cn c (it c j p) := fun j => by rw [it_mod (by omega) k3]; exact k4 _ (Nat.mod_lt _ (by omega))
    have lt6 : ∀ j, it c j p < 6 := fun j => by
      have a := it_le hv j p (by omega)
      have b := occ j
      rcases Nat.lt_or_ge (it c j p) 6 with z | z
      · exact z
      · have e : it c j p = 6 := by omega
        rw [e, cn_6 hc] at b; omega
    refine ⟨it c i p, lt6 i, bgL_iff.mpr ⟨K, k1, k2, ?_, fun j _ => ?_, fun j hj1 hj2 => ?_⟩, ⟨i, rfl⟩, K - i, ?_⟩
    · rw [← it_add, Nat.add_comm, it_add, k3]
    · rw [← it_add]; exact occ _
    · rw [← it_add]
      have ne : it c (i + j) p ≠ it c i p := by
        intro e
        have a : it c (K - i) (it c (i + j) p) = it c (K - i) (it c i p) := by rw [e]
        rw [← it_add, ← it_add, show i + j + (K - i) = 1 * K + j by omega, it_per k3, show i + (K - i) = K by omega, k3] at a
        exact (k5 j hj1 hj2).1 a
      refine ⟨ne, ?_⟩
      have a := hmin ((i + j) % K) (Nat.mod_lt _ (by omega))
      rw [← it_mod (by omega) k3] at a
      have b : lab' (it c i p) ≠ lab' (it c (i + j) p) := fun e => ne (inj _ _ (lt6 _) (lt6 _) (occ _) (occ _) e).symm
      omega
    · rw [← it_add, show i + (K - i) = K by omega, k3]
  have ch : ∃ g : Nat → Nat, ∀ p, p < 6 → bgL c lab p = true → g p < 6 ∧ bgL c lab' (g p) = true ∧ (∃ i, it c i p = g p) ∧ ∃ i, it c i (g p) = p := by
    refine ⟨fun p => Classical.epsilon (fun s => s < 6 ∧ bgL c lab' s = true ∧ (∃ i, it c i p = s) ∧ ∃ i, it c i s = p), fun p hp h => ?_⟩
    exact Classical.epsilon_spec (p := fun s => s < 6 ∧ bgL c lab' s = true ∧ (∃ i, it c i p = s) ∧ ∃ i, it c i s = p) (key p hp h)
  obtain ⟨g, hg⟩ := ch
  refine ct_inj (g := g) 6 _ (fun p hp h => ⟨(hg p hp h).1, (hg p hp h).2.1⟩) (fun p1 p2 h1 h2 b1 b2 e => ?_)
  have step : ∀ a b, a < 6 → b < 6 → bgL c lab a = true → bgL c lab b = true → g a = g b → a = b ∨ lab a < lab b := by
    intro a b ha hb ba bb e
    obtain ⟨_, _, ⟨i, hi⟩, _⟩ := hg a ha ba
    obtain ⟨_, _, _, j, hj⟩ := hg b hb bb
    obtain ⟨K, k1, k2, k3, k4, k5⟩ := bgL_iff.mp ba
    have r : it c (i + j) a = b := by rw [it_add, hi, e, hj]
    rw [it_mod (by omega) k3] at r
    rcases Nat.eq_zero_or_pos ((i + j) % K) with z | z
    · rw [z] at r; exact Or.inl r
    · have := (k5 _ z (Nat.mod_lt _ (by omega))).2
      rw [r] at this; exact Or.inr this
  rcases step p1 p2 h1 h2 b1 b2 e with z | z
  · exact z
  · rcases step p2 p1 h2 h1 b2 b1 e.symm with y | y
    · exact y.symm
    · omega

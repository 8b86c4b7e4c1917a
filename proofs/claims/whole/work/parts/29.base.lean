/-! PURE: base. Functions of the walker (Option) on numbers nI k. -/
/-- a loop by a measure: each round either ends as Q says or goes on at a smaller state -/
theorem pzM {σ τ : Type} {F : Nat → σ → Option τ} {I : σ → Prop} {μ : σ → Nat} {Q : Option τ → Prop} (hs : ∀ fu s, I s → Q (F (fu + 1) s) ∨ ∃ s', I s' ∧ μ s' < μ s ∧ F (fu + 1) s = F fu s') : ∀ fu s, I s → μ s < fu → Q (F fu s) := by
  intro fu
  induction fu with
  | zero => intro s _ h; omega
  | succ fu ih =>
    intro s hI h
    rcases hs fu s hI with q | ⟨s', h1, h2, h3⟩
    · exact q
    · rw [h3]; exact ih s' h1 (by omega)
/-- a counted loop: from k up to n -/
theorem pzC {σ τ : Type} {F : Nat → Int32 → σ → Option τ} {n : Nat} {I : Nat → σ → Prop} {Q : Option τ → Prop}
    (he : ∀ fu s, I n s → Q (F (fu + 1) (nI n) s))
    (hs : ∀ fu k s, k < n → I k s → Q (F (fu + 1) (nI k) s) ∨ ∃ s', I (k + 1) s' ∧ F (fu + 1) (nI k) s = F fu (nI (k + 1)) s') : ∀ d k s fu, k + d = n → d < fu → I k s → Q (F fu (nI k) s) := by
  intro d
  induction d with
  | zero =>
    intro k s fu hk hf hI
    obtain ⟨fu, rfl⟩ : ∃ g, fu = g + 1 := ⟨fu - 1, by omega⟩
    have : k = n := by omega
    subst this
    exact he fu s hI
  | succ d ih =>
    intro k s fu hk hf hI
    obtain ⟨fu, rfl⟩ : ∃ g, fu = g + 1 := ⟨fu - 1, by omega⟩
    rcases hs fu k s (by omega) hI with q | ⟨s', h1, h2⟩
    · exact q
    · rw [h2]; exact ih (k + 1) s' fu (by omega) (by omega) h1
/-- the first of n numbers with p, or n -/
def pzF (p : Nat → Bool) : Nat → Nat → Nat
  | 0, k => k
  | d + 1, k => if p k then k else pzF p d (k + 1)
abbrev pzf (p : Nat → Bool) (n : Nat) : Nat := pzF p n 0
theorem pzF_bd (p : Nat → Bool) : ∀ d k, k ≤ pzF p d k ∧ pzF p d k ≤ k + d := by
  intro d
  induction d with
  | zero => intro k; exact ⟨Nat.le_refl _, Nat.le_refl _⟩
  | succ d ih =>
    intro k
    unfold pzF
    split
    · omega
    · have := ih (k + 1); omega
theorem pzF_yes (p : Nat → Bool) : ∀ d k, pzF p d k < k + d → p (pzF p d k) = true := by
  intro d
  induction d with
  | zero => intro k h; exact absurd h (by simp [pzF])
  | succ d ih =>
    intro k h
    unfold pzF at h ⊢
    split
    · assumption
    · next hp => rw [if_neg hp] at h; exact ih (k + 1) (by omega)
theorem pzF_no (p : Nat → Bool) : ∀ d k j, k ≤ j → j < pzF p d k → p j = false := by
  intro d
  induction d with
  | zero => intro k j h1 h2; simp only [pzF] at h2; omega
  | succ d ih =>
    intro k j h1 h2
    unfold pzF at h2
    split at h2
    · omega
    · next hp =>
      rcases Nat.eq_or_lt_of_le h1 with rfl | h
      · simpa using hp
      · exact ih (k + 1) j h h2
theorem pzf_le (p : Nat → Bool) (n : Nat) : pzf p n ≤ n := by have := (pzF_bd p n 0).2; show pzF p n 0 ≤ n; omega
theorem pzf_yes {p : Nat → Bool} {n : Nat} (h : pzf p n < n) : p (pzf p n) = true := pzF_yes p n 0 (by show pzF p n 0 < 0 + n; have : pzF p n 0 < n := h; omega)
theorem pzf_no {p : Nat → Bool} {n j : Nat} (h : j < pzf p n) : p j = false := pzF_no p n 0 j (Nat.zero_le _) h
theorem pzf_eq {p : Nat → Bool} {n i : Nat} (hi : i < n) (hp : p i = true) (hn : ∀ j, j < i → p j = false) : pzf p n = i := by
  rcases Nat.lt_trichotomy (pzf p n) i with h | h | h
  · have := pzf_yes (p := p) (n := n) (by omega); rw [hn _ h] at this; cases this
  · exact h
  · have := pzf_no h; rw [hp] at this; cases this
theorem pzf_none {p : Nat → Bool} {n : Nat} : pzf p n = n ↔ ∀ j, j < n → p j = false := by
  constructor
  · intro h j hj; exact pzf_no (n := n) (by omega)
  · intro h
    rcases Nat.lt_or_ge (pzf p n) n with q | q
    · have := pzf_yes q; rw [h _ q] at this; cases this
    · have := pzf_le p n; omega
theorem pzf_lt {p : Nat → Bool} {n : Nat} : pzf p n < n ↔ ∃ j, j < n ∧ p j = true := by
  constructor
  · intro h; exact ⟨_, h, pzf_yes h⟩
  · rintro ⟨j, hj, hp⟩
    rcases Nat.lt_or_ge (pzf p n) n with q | q
    · exact q
    · have := (pzf_none (p := p) (n := n)).mp (by have := pzf_le p n; omega) j hj; rw [hp] at this; cases this
theorem pzf_cong {p q : Nat → Bool} {n : Nat} (h : ∀ j, j < n → p j = q j) : pzf p n = pzf q n := by
  rcases Nat.lt_or_ge (pzf q n) n with hq | hq
  · exact pzf_eq hq (by rw [h _ hq]; exact pzf_yes hq) (fun j hj => by rw [h j (by omega)]; exact pzf_no hj)
  · have e : pzf q n = n := by have := pzf_le q n; omega
    rw [e]; exact pzf_none.mpr (fun j hj => by rw [h j hj]; exact pzf_none.mp e j hj)
/-- a loop that looks for the first -/
theorem pzL {α : Type} {F : Nat → Int32 → Option (α ⊕ Int32)} {n : Nat} (p : Nat → Bool) (g : Nat → α)
    (he : ∀ fu, F (fu + 1) (nI n) = some (.inr (nI n)))
    (hs : ∀ fu k, k < n → F (fu + 1) (nI k) = if p k = true then some (.inl (g k)) else F fu (nI (k + 1))) : ∀ fu, n < fu → F fu (nI 0) = if pzf p n < n then some (.inl (g (pzf p n))) else some (.inr (nI n)) := by
  have : ∀ d k fu, k + d = n → d < fu → F fu (nI k) = if pzF p d k < n then some (.inl (g (pzF p d k))) else some (.inr (nI n)) := by
    intro d
    induction d with
    | zero =>
      intro k fu hk hf
      obtain ⟨fu, rfl⟩ : ∃ q, fu = q + 1 := ⟨fu - 1, by omega⟩
      obtain rfl : k = n := by omega
      rw [he, if_neg (by simp [pzF])]
    | succ d ih =>
      intro k fu hk hf
      obtain ⟨fu, rfl⟩ : ∃ q, fu = q + 1 := ⟨fu - 1, by omega⟩
      rw [hs fu k (by omega)]
      unfold pzF
      by_cases h : p k = true
      · rw [if_pos h, if_pos h, if_pos (by omega)]
      · rw [if_neg h, if_neg h]; exact ih (k + 1) fu (by omega) (by omega)
  intro fu hf
  exact this n 0 fu (by omega) hf
/-- a loop that runs to its end over a state -/
def pzA {σ : Type} (st : Nat → σ → σ) : Nat → Nat → σ → σ
  | 0, _, s => s
  | d + 1, k, s => pzA st d (k + 1) (st k s)
theorem pzG {σ : Type} {F : Nat → Int32 → σ → Option (Int32 × σ)} {n : Nat} (I : Nat → σ → Prop)
    (he : ∀ fu s, I n s → F (fu + 1) (nI n) s = some (nI n, s))
    (hs : ∀ fu k s, k < n → I k s → ∃ s', I (k + 1) s' ∧ F (fu + 1) (nI k) s = F fu (nI (k + 1)) s') : ∀ s fu, n < fu → I 0 s → ∃ s', I n s' ∧ F fu (nI 0) s = some (nI n, s') := by
  intro s fu hf h0
  exact pzC (Q := fun o => ∃ s', I n s' ∧ o = some (nI n, s')) (fun fu s h => ⟨s, h, he fu s h⟩) (fun fu k s hk h => Or.inr (hs fu k s hk h)) n 0 s fu (by omega) hf h0
theorem pz_jFU {n : Nat} (h : n < 1000000) : n < jFU := h
/-! numbers -/
theorem z_lt {a b : Nat} (ha : a < 2147483648) (hb : b < 2147483648) : (nI a < nI b) = (a < b) := propext (nI_ltI ha hb)
theorem z_le {a b : Nat} (ha : a < 2147483648) (hb : b < 2147483648) : (nI a ≤ nI b) = (a ≤ b) := propext (nI_leI ha hb)
theorem z_eq {a b : Nat} (ha : a < 2147483648) (hb : b < 2147483648) : (nI a = nI b) = (a = b) := propext (nI_eq ha hb)
theorem z_cl {a : Nat} (h : a < 2147483648) : (nI a).toNatClampNeg = a := nI_clamp h
theorem z_0 : (0 : Int32) = nI 0 := rfl
theorem z_1 : (1 : Int32) = nI 1 := rfl
theorem z_ltl {a n : Nat} (ha : a < 2147483648) (hb : (OfNat.ofNat n : Nat) < 2147483648) : (nI a < (no_index (OfNat.ofNat n) : Int32)) = (a < no_index (OfNat.ofNat n)) := z_lt ha hb
theorem z_lel {a n : Nat} (ha : a < 2147483648) (hb : (OfNat.ofNat n : Nat) < 2147483648) : (nI a ≤ (no_index (OfNat.ofNat n) : Int32)) = (a ≤ no_index (OfNat.ofNat n)) := z_le ha hb
theorem z_llt {a n : Nat} (ha : a < 2147483648) (hb : (OfNat.ofNat n : Nat) < 2147483648) : ((no_index (OfNat.ofNat n) : Int32) < nI a) = (no_index (OfNat.ofNat n) < a) := z_lt hb ha
theorem z_lle {a n : Nat} (ha : a < 2147483648) (hb : (OfNat.ofNat n : Nat) < 2147483648) : ((no_index (OfNat.ofNat n) : Int32) ≤ nI a) = (no_index (OfNat.ofNat n) ≤ a) := z_le hb ha
theorem z_eql {a n : Nat} (ha : a < 2147483648) (hb : (OfNat.ofNat n : Nat) < 2147483648) : (nI a = (no_index (OfNat.ofNat n) : Int32)) = (a = no_index (OfNat.ofNat n)) := z_eq ha hb
theorem z_m1 {a : Nat} (ha : a < 2147483648) : (nI a = (-1 : Int32)) = False := by
  refine eq_false (fun h => ?_)
  have := congrArg Int32.toInt h
  rw [nI_toInt ha] at this
  have e : (-1 : Int32).toInt = -1 := by decide
  omega
theorem z_addl (a n : Nat) : nI a + (no_index (OfNat.ofNat n) : Int32) = nI (a + no_index (OfNat.ofNat n)) := nI_add a n
theorem z_ladd (a n : Nat) : (no_index (OfNat.ofNat n) : Int32) + nI a = nI (no_index (OfNat.ofNat n) + a) := nI_add n a
theorem z_mull (a n : Nat) : nI a * (no_index (OfNat.ofNat n) : Int32) = nI (a * no_index (OfNat.ofNat n)) := pk_mul a n
theorem z_lmul (a n : Nat) : (no_index (OfNat.ofNat n) : Int32) * nI a = nI (no_index (OfNat.ofNat n) * a) := pk_mul n a
theorem z_subl {a n : Nat} (h : (OfNat.ofNat n : Nat) ≤ a) : nI a - (no_index (OfNat.ofNat n) : Int32) = nI (a - no_index (OfNat.ofNat n)) := pk_sub h
theorem z_divl {a n : Nat} (ha : a < 2147483648) (h0 : 0 < (OfNat.ofNat n : Nat)) (hb : (OfNat.ofNat n : Nat) < 2147483648) : nI a / (no_index (OfNat.ofNat n) : Int32) = nI (a / no_index (OfNat.ofNat n)) := pk_div ha h0 hb
theorem z_jin {a n : Nat} (ha : a < 2147483648) : jin (nI a) n = decide (a < n) := by
  have h1 : ¬ nI a < 0 := nI_pos ha
  simp only [jin, z_cl ha, h1, not_false_iff, decide_true, Bool.true_and]
theorem z_jinT {a n : Nat} (ha : a < 2147483648) (h : a < n) : (jin (nI a) n = true) = True := by rw [z_jin ha, decide_eq_true_eq]; exact eq_true h
theorem z_jinl {n k : Nat} (hn : (OfNat.ofNat n : Nat) < 2147483648) (h : (OfNat.ofNat n : Nat) < k) : (jin (no_index (OfNat.ofNat n) : Int32) k = true) = True := z_jinT hn h
theorem z_cll {n : Nat} (hn : (OfNat.ofNat n : Nat) < 2147483648) : (no_index (OfNat.ofNat n) : Int32).toNatClampNeg = no_index (OfNat.ofNat n) := z_cl hn
theorem z_neg {a : Nat} (ha : a < 2147483648) : (nI a < 0) = False := eq_false (nI_pos ha)
theorem z_01 : ((0 : Int32) = 1) = False := eq_false (by decide)
theorem z_10 : ((1 : Int32) = 0) = False := eq_false (by decide)
theorem z_bind {α β : Type} (a : α) (k : α → Option β) : Option.bind (some a) k = k a := rfl
theorem z_ifT {α : Type} {c : Prop} {i : Decidable c} {a b : α} (h : c) : (@ite α c i a b) = a := if_pos h
theorem z_ifF {α : Type} {c : Prop} {i : Decidable c} {a b : α} (h : ¬ c) : (@ite α c i a b) = b := if_neg h
/-- an argument: below, above, or one of the n -/
theorem z_arg (x : Int32) {n : Nat} (hn : n < 2147483648) : (∃ k, k < n ∧ x = nI k) ∨ (x < 0 ∨ nI n ≤ x) := by
  rcases pk_ix x hn with h | h | ⟨k, h1, h2⟩
  · exact Or.inr (Or.inl h)
  · exact Or.inr (Or.inr h)
  · exact Or.inl ⟨k, h1, h2⟩
theorem z_nle {x : Int32} {n : Nat} (h : nI n ≤ x) : ∀ m : Nat, m ≤ n → n < 2147483648 → nI m ≤ x := by
  intro m hm hn
  rw [Int32.le_iff_toInt_le] at h ⊢
  rw [nI_toInt hn] at h
  rw [nI_toInt (by omega)]
  omega
theorem z_upds (f : Nat → Int32) (k : Nat) (x : Int32) : upd f k x k = x := pk_us
theorem z_updn {f : Nat → Int32} {k j : Nat} (x : Int32) (h : j ≠ k) : upd f k x j = f j := pk_un h
theorem z_upd (f : Nat → Int32) (k j : Nat) (x : Int32) : upd f k x j = if j = k then x else f j := rfl
/-! the face's own tests, and the model's -/
theorem z_in (x y z : Int32) : f_X10_in x.toInt64 y.toInt64 z.toInt64 = some (if y ≤ x ∧ x ≤ z then 1 else 0) := by
  unfold f_X10_in
  by_cases h1 : x < y
  · rw [if_pos ((lg_cmp_lt _ _).mpr ((fa_wide_lt x y).mpr h1)), if_neg (fun h => (fa_of_lt h1).2.1 h.1)]
  · rw [if_neg (fun h => h1 ((fa_wide_lt x y).mp ((lg_cmp_lt _ _).mp h)))]
    by_cases h2 : z < x
    · rw [if_pos ((lg_cmp_gt _ _).mpr ((fa_wide_lt z x).mpr h2)), if_neg (fun h => (fa_of_lt h2).2.1 h.2)]
    · rw [if_neg (fun h => h2 ((fa_wide_lt z x).mp ((lg_cmp_gt _ _).mp h))), if_pos ⟨fa_of_nlt h1, fa_of_nlt h2⟩]
theorem z_inT {x : Int32} {y z : Int64} (y0 z0 : Int32) (hy : y = y0.toInt64) (hz : z = z0.toInt64) (h : y0 ≤ x ∧ x ≤ z0) : f_X10_in x.toInt64 y z = some 1 := by
  rw [hy, hz, z_in, if_pos h]
theorem z_inF {x : Int32} {y z : Int64} (y0 z0 : Int32) (hy : y = y0.toInt64) (hz : z = z0.toInt64) (h : ¬ (y0 ≤ x ∧ x ≤ z0)) : f_X10_in x.toInt64 y z = some 0 := by
  rw [hy, hz, z_in, if_neg h]
/-- a range of numbers, at a number or outside -/
theorem z_rng (x : Int32) {n : Nat} (hn : n < 2147483648) : (∃ k, k ≤ n ∧ x = nI k ∧ (nI 0 ≤ x ∧ x ≤ nI n)) ∨ ((x < 0 ∨ nI n < x) ∧ ¬ (nI 0 ≤ x ∧ x ≤ nI n)) := by
  by_cases h0 : x < 0
  · exact Or.inr ⟨Or.inl h0, fun h => (fa_of_lt h0).2.1 h.1⟩
  · by_cases h1 : nI n < x
    · exact Or.inr ⟨Or.inr h1, fun h => (fa_of_lt h1).2.1 h.2⟩
    · obtain ⟨k, hk, rfl⟩ := nI_of h0
      have h2 : nI k ≤ nI n := fa_of_nlt h1
      rw [z_le (by omega) hn] at h2
      exact Or.inl ⟨k, h2, rfl, fa_of_nlt h0, fa_of_nlt h1⟩
theorem z_gt {x : Int32} {n : Nat} (hn : n + 1 < 2147483648) (h : nI n < x) : nI (n + 1) ≤ x ∧ ¬ x < 0 := by
  rw [Int32.lt_iff_toInt_lt, nI_toInt (by omega)] at h
  rw [Int32.le_iff_toInt_le, nI_toInt (by omega), Int32.lt_iff_toInt_lt]
  have e : (0 : Int32).toInt = 0 := by decide
  omega
theorem z_isRack (x : Int32) : (∃ r, r < 3 ∧ x = nI r ∧ f_X9_isRack x = some 1 ∧ f_X10_isRack x = some 1) ∨ (f_X9_isRack x = some 0 ∧ f_X10_isRack x = some 0) := by
  rcases z_rng x (n := 2) (by omega) with ⟨k, hk, rfl, h⟩ | ⟨h, h'⟩
  · refine Or.inl ⟨k, by omega, rfl, ?_, ?_⟩
    · unfold f_X9_isRack
      rw [if_neg (nI_pos (by omega)), if_neg (show ¬ (3 : Int32) ≤ nI k from nI_ge (b := 3) (by omega) (by omega))]
    · unfold f_X10_isRack
      rw [z_inT (y := 0) (z := 2) (nI 0) (nI 2) rfl rfl h]
      rfl
  · refine Or.inr ⟨?_, ?_⟩
    · unfold f_X9_isRack
      rcases h with h | h
      · rw [if_pos h]
      · have := z_gt (by omega) h
        rw [if_neg this.2, if_pos (show (3 : Int32) ≤ x from this.1)]
    · unfold f_X10_isRack
      rw [z_inF (y := 0) (z := 2) (nI 0) (nI 2) rfl rfl h']
      rfl
theorem z_isPlace (x : Int32) : (∃ r, r < 6 ∧ x = nI r ∧ f_X9_isPlace x = some 1 ∧ f_X10_isPlace x = some 1) ∨ (f_X9_isPlace x = some 0 ∧ f_X10_isPlace x = some 0) := by
  rcases z_rng x (n := 5) (by omega) with ⟨k, hk, rfl, h⟩ | ⟨h, h'⟩
  · refine Or.inl ⟨k, by omega, rfl, ?_, ?_⟩
    · unfold f_X9_isPlace
      rw [if_neg (nI_pos (by omega)), if_neg (show ¬ (6 : Int32) ≤ nI k from nI_ge (b := 6) (by omega) (by omega))]
    · unfold f_X10_isPlace
      rw [z_inT (y := 0) (z := 5) (nI 0) (nI 5) rfl rfl h]
      rfl
  · refine Or.inr ⟨?_, ?_⟩
    · unfold f_X9_isPlace
      rcases h with h | h
      · rw [if_pos h]
      · have := z_gt (by omega) h
        rw [if_neg this.2, if_pos (show (6 : Int32) ≤ x from this.1)]
    · unfold f_X10_isPlace
      rw [z_inF (y := 0) (z := 5) (nI 0) (nI 5) rfl rfl h']
      rfl
theorem z_rack9 {r : Nat} (h : r < 3) : f_X9_isRack (nI r) = some 1 := by
  unfold f_X9_isRack
  rw [if_neg (nI_pos (by omega)), if_neg (show ¬ (3 : Int32) ≤ nI r from nI_ge (b := 3) (by omega) (by omega))]
theorem z_place9 {r : Nat} (h : r < 6) : f_X9_isPlace (nI r) = some 1 := by
  unfold f_X9_isPlace
  rw [if_neg (nI_pos (by omega)), if_neg (show ¬ (6 : Int32) ≤ nI r from nI_ge (b := 6) (by omega) (by omega))]

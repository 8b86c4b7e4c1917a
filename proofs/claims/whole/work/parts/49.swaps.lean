/-! PURE: a rack's code, and the model's number of swaps -/
def zIn (L : Nat → Nat) (r h : Nat) : Bool := decide (L h < 18 ∧ L h / 6 = r)
def zRk (n : Nat) (P L : Nat → Nat) (r h : Nat) : Nat := fb_ct (fun x => zIn L r x && zBef P x h) n
def zDig (n : Nat) (P L : Nat → Nat) (r p : Nat) : Nat := if zAt n L (r * 6 + p) < n then zRk n P L r (zAt n L (r * 6 + p)) + 1 else 0
def zCode (n : Nat) (P L : Nat → Nat) (r : Nat) : Nat := zDig n P L r 0 + zDig n P L r 1 * 8 + zDig n P L r 2 * 64 + zDig n P L r 3 * 512 + zDig n P L r 4 * 4096 + zDig n P L r 5 * 32768
theorem zIn_iff {L : Nat → Nat} {r h : Nat} : zIn L r h = true ↔ L h < 18 ∧ L h / 6 = r := decide_eq_true_iff
theorem zBef_lt {P : Nat → Nat} {i j : Nat} (h : zBef P i j = true) : P i < P j ∨ P i = P j ∧ i < j := of_decide_eq_true h
theorem zBef_of {P : Nat → Nat} {i j : Nat} (h : P i < P j ∨ P i = P j ∧ i < j) : zBef P i j = true := decide_eq_true h
section ZR
variable {n r : Nat} {P L : Nat → Nat}
theorem zAt_slot {s : Nat} (h : zAt n L s < n) : L (zAt n L s) = s := by have := pzf_yes h; simpa using this
theorem zAt_of (inj : ∀ i j, i < n → j < n → L i = L j → L i < 18 → i = j) {h : Nat} (hh : h < n) (hl : L h < 18) : zAt n L (L h) = h := by
  have c : zAt n L (L h) < n := pzf_lt.mpr ⟨h, hh, by simp⟩
  have e := zAt_slot c
  exact inj _ _ c hh e (by omega)
theorem zIn_place {h : Nat} (i : zIn L r h = true) : L h = r * 6 + L h % 6 := by have := zIn_iff.mp i; omega
theorem zIn_at {p : Nat} (hr : r < 3) (hp : p < 6) (h : zAt n L (r * 6 + p) < n) : zIn L r (zAt n L (r * 6 + p)) = true := by
  rw [zIn_iff, zAt_slot h]; omega
theorem zRk_mono {x y : Nat} (hx : x < n) (hi : zIn L r x = true) (b : zBef P x y = true) : zRk n P L r x < zRk n P L r y := by
  unfold zRk
  have u := fb_ct_upd (fun z => zIn L r z && zBef P z y) false hx
  rw [if_neg (show ¬ false = true by decide), if_pos (by rw [hi, b]; rfl)] at u
  have d : fb_ct (fun z => zIn L r z && zBef P z x) n ≤ fb_ct (fun k => if k = x then false else (zIn L r k && zBef P k y)) n := fb_ct_sub (fun k hk e => by
    rw [Bool.and_eq_true] at e
    have b1 := zBef_lt e.2
    have b2 := zBef_lt b
    have n' : k ≠ x := by rintro rfl; omega
    rw [if_neg n', Bool.and_eq_true]
    exact ⟨e.1, zBef_of (by omega)⟩)
  omega
theorem zRk_inj {x y : Nat} (hx : x < n) (hy : y < n) (ix : zIn L r x = true) (iy : zIn L r y = true) (e : zRk n P L r x = zRk n P L r y) : x = y := by
  rcases Nat.lt_trichotomy x y with h | h | h
  · by_cases b : P x ≤ P y
    · have := zRk_mono hx ix (show zBef P x y = true from zBef_of (by omega)); omega
    · have := zRk_mono hy iy (show zBef P y x = true from zBef_of (by omega)); omega
  · exact h
  · by_cases b : P y ≤ P x
    · have := zRk_mono hy iy (show zBef P y x = true from zBef_of (by omega)); omega
    · have := zRk_mono hx ix (show zBef P x y = true from zBef_of (by omega)); omega
theorem zIn_six (inj : ∀ i j, i < n → j < n → L i = L j → L i < 18 → i = j) : fb_ct (zIn L r) n ≤ 6 := by
  have a : fb_ct (zIn L r) n ≤ fb_ct (fun _ => true) 6 := ct_inj (g := fun h => L h % 6) n _ (fun x _ _ => ⟨Nat.mod_lt _ (by omega), rfl⟩) (fun x y hx hy a b e => by
    have := zIn_place a
    have := zIn_place b
    have := (zIn_iff.mp a).1
    exact inj x y hx hy (by omega) this)
  have := fb_ct_le (fun _ => true) 6
  omega
theorem zRk_lt (inj : ∀ i j, i < n → j < n → L i = L j → L i < 18 → i = j) {h : Nat} (hh : h < n) (hi : zIn L r h = true) : zRk n P L r h < 6 := by
  have s := zIn_six (r := r) inj
  have u := fb_ct_upd (zIn L r) false hh
  rw [if_neg (show ¬ false = true by decide), if_pos hi] at u
  have d : zRk n P L r h ≤ fb_ct (fun k => if k = h then false else zIn L r k) n := fb_ct_sub (fun k hk e => by
    rw [Bool.and_eq_true] at e
    have b1 := zBef_lt e.2
    have n' : k ≠ h := by rintro rfl; omega
    rw [if_neg n']; exact e.1)
  omega
theorem zRk_pred {h : Nat} (hh : h < n) (hi : zIn L r h = true) (h0 : 0 < zRk n P L r h) : ∃ x, x < n ∧ zIn L r x = true ∧ zRk n P L r x + 1 = zRk n P L r h := by
  obtain ⟨i, hin, hmax, _⟩ := fb_best (fun x => if (zIn L r x && zBef P x h) = true then (zRk n P L r x : Int) else -1) (n := n) (by omega)
  obtain ⟨y, hy, by'⟩ := fb_ct_pos.mp h0
  have iy := hmax y hy
  rw [if_pos by'] at iy
  have ci : (zIn L r i && zBef P i h) = true := by
    by_cases c : (zIn L r i && zBef P i h) = true
    · exact c
    · rw [if_neg c] at iy; omega
  have c2 := ci
  rw [Bool.and_eq_true] at c2
  refine ⟨i, hin, c2.1, ?_⟩
  have u := fb_ct_upd (fun z => zIn L r z && zBef P z h) false hin
  rw [if_neg (show ¬ false = true by decide), if_pos ci] at u
  have e : zRk n P L r i = fb_ct (fun k => if k = i then false else (zIn L r k && zBef P k h)) n := by
    refine fb_ct_cong (fun k hk => ?_)
    by_cases a : k = i
    · rw [if_pos a, a]
      have : zBef P i i = false := by unfold zBef; simp
      rw [this, Bool.and_false]
    · rw [if_neg a]
      cases ik : zIn L r k
      · rfl
      · have m := hmax k hk
        cases bk : zBef P k h
        · -- k isn't before h: not before i
          cases b : zBef P k i
          · rfl
          · have := zBef_lt b
            have := zBef_lt c2.2
            rw [zBef_of (show P k < P h ∨ P k = P h ∧ k < h by omega)] at bk; cases bk
        · rw [if_pos (by rw [ik, bk]; rfl), if_pos ci] at m
          have hlt : zBef P k i = true := by
            by_cases b : P k < P i ∨ P k = P i ∧ k < i
            · exact zBef_of b
            · have := zRk_mono (n := n) (L := L) (r := r) hin c2.1 (show zBef P i k = true from zBef_of (by omega))
              omega
          rw [hlt]; try rfl
  unfold zRk at e ⊢
  omega
theorem zDig_6 (inj : ∀ i j, i < n → j < n → L i = L j → L i < 18 → i = j) (hr : r < 3) {p : Nat} (hp : p < 6) : zDig n P L r p ≤ 6 := by
  unfold zDig
  by_cases c : zAt n L (r * 6 + p) < n
  · rw [if_pos c]; have := zRk_lt (P := P) inj c (zIn_at hr hp c); omega
  · rw [if_neg c]; omega
theorem zCode_cn (inj : ∀ i j, i < n → j < n → L i = L j → L i < 18 → i = j) (hr : r < 3) {p : Nat} (hp : p < 6) : cn (zCode n P L r) p = zDig n P L r p := by
  have d0 := zDig_6 (P := P) inj hr (p := 0) (by omega)
  have d1 := zDig_6 (P := P) inj hr (p := 1) (by omega)
  have d2 := zDig_6 (P := P) inj hr (p := 2) (by omega)
  have d3 := zDig_6 (P := P) inj hr (p := 3) (by omega)
  have d4 := zDig_6 (P := P) inj hr (p := 4) (by omega)
  have d5 := zDig_6 (P := P) inj hr (p := 5) (by omega)
  unfold cn zCode
  match p, hp with
  | 0, _ => show _ / 1 % 8 = _; omega
  | 1, _ => show _ / 8 % 8 = _; omega
  | 2, _ => show _ / 64 % 8 = _; omega
  | 3, _ => show _ / 512 % 8 = _; omega
  | 4, _ => show _ / 4096 % 8 = _; omega
  | 5, _ => show _ / 32768 % 8 = _; omega
theorem zCode_vB (inj : ∀ i j, i < n → j < n → L i = L j → L i < 18 → i = j) (hr : r < 3) : vB (zCode n P L r) = true := by
  refine vB_alt.mpr ⟨?_, fun p hp => ?_, fun p hp => ?_, fun p q hp hq ne h0 e => ?_⟩
  · have d0 := zDig_6 (P := P) inj hr (p := 0) (by omega)
    have d1 := zDig_6 (P := P) inj hr (p := 1) (by omega)
    have d2 := zDig_6 (P := P) inj hr (p := 2) (by omega)
    have d3 := zDig_6 (P := P) inj hr (p := 3) (by omega)
    have d4 := zDig_6 (P := P) inj hr (p := 4) (by omega)
    have d5 := zDig_6 (P := P) inj hr (p := 5) (by omega)
    unfold zCode; omega
  · rw [zCode_cn inj hr hp]; exact zDig_6 inj hr hp
  · rw [zCode_cn inj hr hp]
    unfold zDig
    by_cases c : zAt n L (r * 6 + p) < n
    · rw [if_pos c]
      rcases Nat.eq_zero_or_pos (zRk n P L r (zAt n L (r * 6 + p))) with z | z
      · exact Or.inl (by omega)
      · obtain ⟨x, x1, x2, x3⟩ := zRk_pred c (zIn_at hr hp c) z
        refine Or.inr ⟨L x % 6, Nat.mod_lt _ (by omega), ?_⟩
        rw [zCode_cn inj hr (Nat.mod_lt _ (by omega))]
        unfold zDig
        rw [← zIn_place x2, zAt_of inj x1 (zIn_iff.mp x2).1, if_pos x1]; omega
    · rw [if_neg c]; exact Or.inl (by omega)
  · rw [zCode_cn inj hr hp] at h0 e
    rw [zCode_cn inj hr hq] at e
    unfold zDig at h0 e
    by_cases c : zAt n L (r * 6 + p) < n
    · rw [if_pos c] at h0 e
      by_cases d : zAt n L (r * 6 + q) < n
      · rw [if_pos d] at e
        have := zRk_inj (P := P) d c (zIn_at hr hq d) (zIn_at hr hp c) (by omega)
        have a := zAt_slot c
        have b := zAt_slot d
        rw [this] at b
        omega
      · rw [if_neg d] at e; omega
    · rw [if_neg c] at h0; exact h0 rfl
end ZR
theorem x7_numberOf {n r h : Nat} {P L : Nat → Nat} {hp ht : Nat → Int32} (hn : n ≤ 12) (hP : ∀ k, k < n → P k ≤ 60 ∧ hp k = nI (P k)) (hT : ∀ s, s < 18 → ht s = zO n (zAt n L s)) (inj : ∀ i j, i < n → j < n → L i = L j → L i < 18 → i = j) (hr : r < 3) (hh : h < n) : f_X7_numberOf (nI n) hp ht (nI r) (nI h) = some (nI (zRk n P L r h + 1)) := by
  obtain ⟨s, hs, e⟩ := pzG (F := f_X7_numberOf_L5 (nI n) hp ht (nI r) (nI h)) (n := 6) (fun k s => s = nI (1 + fb_ct (fun p => decide (zAt n L (r * 6 + p) < n) && zBef P (zAt n L (r * 6 + p)) h) k))
    (fun fu s _ => by rw [f_X7_numberOf_L5, if_pos (by decide)])
    (fun fu k s hk hs => by
      refine ⟨_, rfl, ?_⟩
      rw [f_X7_numberOf_L5, if_neg (show ¬ (6 : Int32) ≤ nI k from nI_ge (b := 6) hk (by omega)), x2_contentOf ht hr hk, z_bind, hT _ (by omega), nI_1, hs]
      simp only [zO_m1 hn, fb_ct_succ]
      by_cases c : zAt n L (r * 6 + k) < n
      · rw [if_neg (by omega), show zO n (zAt n L (r * 6 + k)) = nI (zAt n L (r * 6 + k)) by unfold zO; rw [if_pos c], x2_sortsBefore hn hP c hh, z_bind]
        by_cases b : zBef P (zAt n L (r * 6 + k)) h = true
        · rw [if_pos b, if_neg z_n10, if_pos (by rw [b]; simp [c]), nI_1]; rfl
        · rw [if_neg b, if_neg (show ¬ (decide (zAt n L (r * 6 + k) < n) && zBef P (zAt n L (r * 6 + k)) h) = true by simp at b; simp [b])]
          first | (rw [if_pos rfl]; done) | (rw [if_pos rfl]; rfl) | rfl
      · rw [if_pos (by omega), if_neg (show ¬ (decide (zAt n L (r * 6 + k) < n) && zBef P (zAt n L (r * 6 + k)) h) = true by simp [c])] <;> try rfl)
    (nI 1) jFU (pz_jFU (by omega)) rfl
  unfold f_X7_numberOf
  rw [show f_X7_numberOf_L5 (nI n) hp ht (nI r) (nI h) jFU 0 1 = f_X7_numberOf_L5 (nI n) hp ht (nI r) (nI h) jFU (nI 0) (nI 1) from rfl, e, z_bind, hs]
  have eq : fb_ct (fun p => decide (zAt n L (r * 6 + p) < n) && zBef P (zAt n L (r * 6 + p)) h) 6 = zRk n P L r h := by
    apply Nat.le_antisymm
    · refine ct_inj (g := fun p => zAt n L (r * 6 + p)) 6 _ (fun p hp' b => ?_) (fun p q hp' hq' a b e => ?_)
      · rw [Bool.and_eq_true, decide_eq_true_eq] at b
        exact ⟨b.1, by rw [Bool.and_eq_true]; exact ⟨zIn_at hr hp' b.1, b.2⟩⟩
      · rw [Bool.and_eq_true, decide_eq_true_eq] at a b
        have x := zAt_slot a.1
        have y := zAt_slot b.1
        replace e : zAt n L (r * 6 + p) = zAt n L (r * 6 + q) := e
        rw [e] at x; omega
    · refine ct_inj (g := fun x => L x % 6) n _ (fun x hx b => ?_) (fun x y hx hy a b e => ?_)
      · rw [Bool.and_eq_true] at b
        refine ⟨Nat.mod_lt _ (by omega), ?_⟩
        rw [← zIn_place b.1, zAt_of inj hx (zIn_iff.mp b.1).1, Bool.and_eq_true]
        exact ⟨decide_eq_true hx, b.2⟩
      · rw [Bool.and_eq_true] at a b
        have := zIn_place a.1
        have := zIn_place b.1
        exact inj x y hx hy (by omega) (zIn_iff.mp a.1).1
  rw [eq, Nat.add_comm]
theorem x7_codeOf {n r : Nat} {P L : Nat → Nat} {hp ht : Nat → Int32} (hn : n ≤ 12) (hP : ∀ k, k < n → P k ≤ 60 ∧ hp k = nI (P k)) (hT : ∀ s, s < 18 → ht s = zO n (zAt n L s)) (inj : ∀ i j, i < n → j < n → L i = L j → L i < 18 → i = j) (hr : r < 3) : f_X7_codeOf (nI n) hp ht (nI r) = some (nI (zCode n P L r)) := by
  have dl : ∀ p, p < 6 → zDig n P L r p < 8 := fun p hp' => by have := zDig_6 (P := P) inj hr hp'; omega
  have lt : ∀ k, k ≤ 6 → fb_sm (fun p => zDig n P L r p * 2 ^ (3 * p)) k < 2 ^ (3 * k) := by
    intro k
    induction k with
    | zero => intro _; show (0:Nat) < 1; omega
    | succ k ih =>
      intro hk
      rw [fb_sm_succ]
      have a := ih (by omega)
      have b := dl k (by omega)
      have e : 2 ^ (3 * (k + 1)) = 8 * 2 ^ (3 * k) := by rw [show 3 * (k + 1) = 3 * k + 3 by omega, Nat.pow_add, Nat.mul_comm]
      have c : zDig n P L r k * 2 ^ (3 * k) ≤ 7 * 2 ^ (3 * k) := Nat.mul_le_mul_right _ (by omega)
      rw [e]; omega
  obtain ⟨s, hs, e⟩ := pzG (F := f_X7_codeOf_L4 (nI n) hp ht (nI r)) (n := 6) (fun k s => s = nI (fb_sm (fun p => zDig n P L r p * 2 ^ (3 * p)) k))
    (fun fu s _ => by rw [f_X7_codeOf_L4, if_pos (by decide)])
    (fun fu k s hk hs => by
      refine ⟨_, rfl, ?_⟩
      rw [f_X7_codeOf_L4, if_neg (show ¬ (6 : Int32) ≤ nI k from nI_ge (b := 6) hk (by omega)), x2_contentOf ht hr hk, z_bind, hT _ (by omega), nI_1, hs]
      simp only [zO_m1 hn, fb_sm_succ]
      by_cases c : zAt n L (r * 6 + k) < n
      · have ed : zDig n P L r k = zRk n P L r (zAt n L (r * 6 + k)) + 1 := by unfold zDig; rw [if_pos c]
        have sl := sh_lt (dl k hk) hk
        rw [if_neg (by omega), show zO n (zAt n L (r * 6 + k)) = nI (zAt n L (r * 6 + k)) by unfold zO; rw [if_pos c], x7_numberOf hn hP hT inj hr c, z_bind, ← ed, z_lmul, pk_shlN (nI (3 * k) &&& 31) (3 * k) (z_sl (3 * k) (by omega)) (by omega), fa_or]
        congr 2
        rw [Nat.or_comm, Nat.mul_comm, ← Nat.two_pow_add_eq_or_of_lt (lt k (by omega)), Nat.add_comm]
      · have ed : zDig n P L r k = 0 := by unfold zDig; rw [if_neg c]
        rw [if_pos (by omega), ed, Nat.zero_mul] <;> try rfl)
    (nI 0) jFU (pz_jFU (by omega)) rfl
  unfold f_X7_codeOf
  rw [show f_X7_codeOf_L4 (nI n) hp ht (nI r) jFU 0 0 = f_X7_codeOf_L4 (nI n) hp ht (nI r) jFU (nI 0) (nI 0) from rfl, e, z_bind, hs]
  have : fb_sm (fun p => zDig n P L r p * 2 ^ (3 * p)) 6 = zCode n P L r := by
    rw [fb_sm_succ, fb_sm_succ, fb_sm_succ, fb_sm_succ, fb_sm_succ, fb_sm_succ, show fb_sm (fun p => zDig n P L r p * 2 ^ (3 * p)) 0 = 0 from rfl, Nat.zero_add]
    unfold zCode
    rw [show 2 ^ (3 * 0) = 1 from rfl, Nat.mul_one]
  rw [this]

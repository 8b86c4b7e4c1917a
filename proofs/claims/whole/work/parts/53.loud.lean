/-! PURE: loudness, both sides -/
theorem sm_inj {f : Nat → Nat} {g : Nat → Nat} {m : Nat} : ∀ (n : Nat) (h : Nat → Nat), (∀ x, x < n → 0 < f x → g x < m ∧ h (g x) = f x) → (∀ x y, x < n → y < n → 0 < f x → 0 < f y → g x = g y → x = y) → fb_sm f n ≤ fb_sm h m := by
  intro n
  induction n with
  | zero => intro h _ _; exact Nat.zero_le _
  | succ n ih =>
    intro h h1 h2
    rw [fb_sm_succ]
    rcases Nat.eq_zero_or_pos (f n) with c | c
    · rw [c, Nat.add_zero]
      exact ih h (fun x hx => h1 x (by omega)) (fun x y hx hy => h2 x y (by omega) (by omega))
    · obtain ⟨a, b⟩ := h1 n (by omega) c
      have u := fb_sm_upd h 0 a
      have := ih (fun k => if k = g n then 0 else h k) (fun x hx hf => by
        obtain ⟨a1, b1⟩ := h1 x (by omega) hf
        have ne : g x ≠ g n := fun e => by have := h2 x n (by omega) (by omega) hf c e; omega
        exact ⟨a1, by rw [if_neg ne]; exact b1⟩) (fun x y hx hy => h2 x y (by omega) (by omega))
      omega
/-- how loud a hammer of pitch a is at pitch b -/
def zLd (a b : Nat) : Nat := if b = a then 8 else if b = a + 12 then 4 else if b = a + 19 then 2 else if b = a + 24 then 1 else 0
theorem zLd_8 (a b : Nat) : zLd a b ≤ 8 := by
  unfold zLd
  split
  · omega
  · split
    · omega
    · split
      · omega
      · split <;> omega
theorem z_sub_eql {a b c : Nat} (ha : a < 1000000) (hb : b < 1000000) (hc : c < 1000000) : (nI b - nI a = nI c) = (b = a + c) := by
  rw [fa_eq, pk_sub_toInt (by omega) (by omega), nI_toInt (by omega)]
  exact propext (by omega)
theorem x1_loudAb {a b : Nat} (ha : a ≤ 100) (hb : b ≤ 200) : f_X1_loudnessAbove (nI b - nI a) = some (nI (zLd a b)) := by
  unfold f_X1_loudnessAbove zLd
  by_cases c0 : b = a
  · rw [if_pos (show nI b - nI a = 0 by rw [z_sub_eq0 (by omega) (by omega)]; exact c0), if_pos c0]; rfl
  · rw [if_neg (show ¬ nI b - nI a = 0 by rw [z_sub_eq0 (by omega) (by omega)]; exact c0), if_neg c0]
    by_cases c1 : b = a + 12
    · rw [if_pos (show nI b - nI a = 12 from (z_sub_eql (c := 12) (by omega) (by omega) (by omega)).mpr c1), if_pos c1]; rfl
    · rw [if_neg (show ¬ nI b - nI a = 12 from fun e => c1 ((z_sub_eql (c := 12) (by omega) (by omega) (by omega)).mp e)), if_neg c1]
      by_cases c2 : b = a + 19
      · rw [if_pos (show nI b - nI a = 19 from (z_sub_eql (c := 19) (by omega) (by omega) (by omega)).mpr c2), if_pos c2]; rfl
      · rw [if_neg (show ¬ nI b - nI a = 19 from fun e => c2 ((z_sub_eql (c := 19) (by omega) (by omega) (by omega)).mp e)), if_neg c2]
        by_cases c3 : b = a + 24
        · rw [if_pos (show nI b - nI a = 24 from (z_sub_eql (c := 24) (by omega) (by omega) (by omega)).mpr c3), if_pos c3]; rfl
        · rw [if_neg (show ¬ nI b - nI a = 24 from fun e => c3 ((z_sub_eql (c := 24) (by omega) (by omega) (by omega)).mp e)), if_neg c3]; rfl
theorem x10_loud {a b : Nat} (ha : a ≤ 100) (hb : b ≤ 200) : f_X10_loud (nI a) (nI b) = some (nI (zLd a b)) := x1_loudAb ha hb
/-- how loud a rack is at a pitch -/
def zLn (n : Nat) (P L : Nat → Nat) (r b : Nat) : Nat := fb_sm (fun k => if zIn L r k = true then zLd (P k) b else 0) n
theorem zLn_100 {n : Nat} (hn : n ≤ 12) (P L : Nat → Nat) (r b : Nat) : zLn n P L r b ≤ 96 := by
  have : zLn n P L r b ≤ n * 8 := fb_sm_bound (fun k _ => by
    split
    · exact zLd_8 _ _
    · omega)
  omega
theorem x10_loudIn {n r b : Nat} {P L : Nat → Nat} {m : Nat → Int32} (hn : n ≤ 12) (hm : m 0 = nI n) (hP : ∀ k, k < n → P k ≤ 60 ∧ m (8 + 6 * k) = nI (P k) ∧ m (8 + 6 * k + 2) = zR (L k)) (hr : r < 3) (hb : b ≤ 84) : f_X10_loudIn m (nI r) (nI b) = some (nI (zLn n P L r b)) := by
  have j : ∀ x, x < 2048 → jin (nI x) 2048 = true := fun x hx => by rw [z_jin (by omega)]; simp; omega
  obtain ⟨s, hs, e⟩ := pzG (F := f_X10_loudIn_L5 m (nI r) (nI b)) (n := n) (fun k s => s = nI (fb_sm (fun k => if zIn L r k = true then zLd (P k) b else 0) k))
    (fun fu s _ => by rw [f_X10_loudIn_L5, if_pos (by decide), show (0 : Int32).toNatClampNeg = 0 from rfl, hm, if_pos (nI_le (Nat.le_refl _) (by omega))])
    (fun fu k s hk hs => by
      refine ⟨_, rfl, ?_⟩
      have p1 := hP k hk
      rw [f_X10_loudIn_L5, if_pos (by decide), show (0 : Int32).toNatClampNeg = 0 from rfl, hm, if_neg (nI_ge hk (by omega)), x10_hammerOf, z_bind, z_bind]
      simp only [z_addl, j (8 + 6 * k) (by omega), j (8 + 6 * k + 2) (by omega), if_true, z_cl (show 8 + 6 * k < 2147483648 by omega), z_cl (show 8 + 6 * k + 2 < 2147483648 by omega), p1.2.1, p1.2.2, hs, fb_sm_succ]
      by_cases c : zIn L r k = true
      · rw [if_pos (show zR (L k) = nI r by rw [zR_eq hr]; exact zIn_iff.mp c), x10_loud (by omega) (by omega), z_bind, if_pos c, nI_add]
      · rw [if_neg (show ¬ zR (L k) = nI r by rw [zR_eq hr]; exact fun q => c (zIn_iff.mpr q)), if_neg c])
    (nI 0) jFU (pz_jFU (by omega)) rfl
  unfold f_X10_loudIn
  rw [show f_X10_loudIn_L5 m (nI r) (nI b) jFU 0 0 = f_X10_loudIn_L5 m (nI r) (nI b) jFU (nI 0) (nI 0) from rfl, e, z_bind, hs]
  rfl
theorem x1_loudOf {n r b : Nat} {P L : Nat → Nat} {hp ht : Nat → Int32} (hn : n ≤ 12) (hP : ∀ k, k < n → P k ≤ 60 ∧ hp k = nI (P k)) (hT : ∀ s, s < 18 → ht s = zO n (zAt n L s)) (inj : ∀ i j, i < n → j < n → L i = L j → L i < 18 → i = j) (hr : r < 3) (hb : b ≤ 84) : f_X1_loudnessOf (nI n) hp ht (nI r) (nI b) = some (nI (zLn n P L r b)) := by
  obtain ⟨s, hs, e⟩ := pzG (F := f_X1_loudnessOf_L17 (nI n) hp ht (nI r) (nI b)) (n := 6) (fun k s => s = nI (fb_sm (fun p => if zAt n L (r * 6 + p) < n then zLd (P (zAt n L (r * 6 + p))) b else 0) k))
    (fun fu s _ => by rw [f_X1_loudnessOf_L17, if_pos (by decide)])
    (fun fu k s hk hs => by
      refine ⟨_, rfl, ?_⟩
      rw [f_X1_loudnessOf_L17, if_neg (show ¬ (6 : Int32) ≤ nI k from nI_ge (b := 6) hk (by omega)), x2_contentOf ht hr hk, z_bind, hT _ (by omega), nI_1, hs]
      simp only [zO_m1 hn, fb_sm_succ]
      by_cases c : zAt n L (r * 6 + k) < n
      · have p1 := hP _ c
        rw [if_neg (by omega), show zO n (zAt n L (r * 6 + k)) = nI (zAt n L (r * 6 + k)) by unfold zO; rw [if_pos c], x2_pitchOf hp hn c, z_bind, p1.2, x1_loudAb (by omega) (by omega), z_bind, if_pos c, nI_add]
      · rw [if_pos (by omega), if_neg c] <;> try rfl)
    (nI 0) jFU (pz_jFU (by omega)) rfl
  unfold f_X1_loudnessOf
  rw [if_neg (nI_pos (by omega)), if_pos (show nI b ≤ (84 : Int32) from nI_le (b := 84) hb (by omega)), show f_X1_loudnessOf_L17 (nI n) hp ht (nI r) (nI b) jFU 0 0 = f_X1_loudnessOf_L17 (nI n) hp ht (nI r) (nI b) jFU (nI 0) (nI 0) from rfl, e, z_bind, hs]
  have : fb_sm (fun p => if zAt n L (r * 6 + p) < n then zLd (P (zAt n L (r * 6 + p))) b else 0) 6 = zLn n P L r b := by
    apply Nat.le_antisymm
    · refine sm_inj (g := fun p => zAt n L (r * 6 + p)) 6 _ (fun p hp' h0 => ?_) (fun p q hp' hq' a b e => ?_)
      · by_cases c : zAt n L (r * 6 + p) < n
        · rw [if_pos c]; exact ⟨c, by rw [if_pos (zIn_at hr hp' c)]⟩
        · rw [if_neg c] at h0; omega
      · by_cases c : zAt n L (r * 6 + p) < n
        · by_cases d : zAt n L (r * 6 + q) < n
          · have x := zAt_slot c
            have y := zAt_slot d
            replace e : zAt n L (r * 6 + p) = zAt n L (r * 6 + q) := e
            rw [e] at x; omega
          · rw [if_neg d] at b; omega
        · rw [if_neg c] at a; omega
    · refine sm_inj (g := fun x => L x % 6) n _ (fun x hx h0 => ?_) (fun x y hx hy a b e => ?_)
      · by_cases c : zIn L r x = true
        · rw [if_pos c]
          refine ⟨Nat.mod_lt _ (by omega), ?_⟩
          rw [← zIn_place c, zAt_of inj hx (zIn_iff.mp c).1, if_pos hx]
        · rw [if_neg c] at h0; omega
      · by_cases c : zIn L r x = true
        · by_cases d : zIn L r y = true
          · have := zIn_place c
            have := zIn_place d
            exact inj x y hx hy (by omega) (zIn_iff.mp c).1
          · rw [if_neg d] at b; omega
        · rw [if_neg c] at a; omega
  rw [this]

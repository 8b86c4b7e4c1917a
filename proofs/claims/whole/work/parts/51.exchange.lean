/-! PURE: the model's number of swaps is the class'; two places exchanged -/
theorem ct_minus {p q : Nat → Bool} : ∀ n, (∀ x, x < n → q x = true → p x = true) → fb_ct (fun x => p x && !q x) n + fb_ct q n = fb_ct p n := by
  intro n
  induction n with
  | zero => intro _; rfl
  | succ n ih =>
    intro h
    have := ih (fun x hx => h x (by omega))
    rw [fb_ct_succ, fb_ct_succ, fb_ct_succ]
    have e := h n (by omega)
    cases hp : p n
    · cases hq : q n
      · simp; omega
      · rw [hq, hp] at e; exact absurd (e rfl) (by decide)
    · cases hq : q n
      · simp; omega
      · simp; omega
theorem phi_lab {c : Nat} {lab : Nat → Nat} (hv : vB c = true) (inj : ∀ x y, x < 6 → y < 6 → 0 < cn c x → 0 < cn c y → lab x = lab y → x = y) : fb_ct (fun p => misB c p && !bgL c lab p) 6 = phi c := by
  have a := cyc_lab (lab := lab) (lab' := id) hv (fun x y _ _ _ _ e => e)
  have b := cyc_lab (lab := id) (lab' := lab) hv inj
  have d := ct_minus (p := misB c) (q := bgL c lab) 6 (fun x _ h => by unfold bgL at h; rw [Bool.and_eq_true] at h; exact h.1)
  unfold phi mis
  omega
section ZX
variable {n r : Nat} {P L : Nat → Nat} {m : Nat → Int32}
theorem zCode_mis (inj : ∀ i j, i < n → j < n → L i = L j → L i < 18 → i = j) (hr : r < 3) {h : Nat} (hh : h < n) (hi : zIn L r h = true) : misB (zCode n P L r) (L h % 6) = !(decide (L h % 6 = zRk n P L r h)) := by
  have lh : zLb n L r (L h % 6) = h := by unfold zLb; rw [← zIn_place hi]; exact zAt_of inj hh (zIn_iff.mp hi).1
  obtain ⟨n1, n2⟩ := zCode_nx (P := P) inj hr (Nat.mod_lt (L h) (by omega : 6 > 0)) (by rw [lh]; exact hh)
  rw [lh] at n1
  unfold misB
  rw [n1]
  have : Nat.blt 0 (cn (zCode n P L r) (L h % 6)) = true := by rw [Nat.blt_eq]; exact n2
  rw [this, Bool.true_and]
  by_cases e : L h % 6 = zRk n P L r h
  · rw [decide_eq_true e, ← e, show Nat.beq (L h % 6) (L h % 6) = true from Nat.beq_refl _]
  · rw [decide_eq_false e, show Nat.beq (zRk n P L r h) (L h % 6) = false by rw [nbne]; exact fun q => e q.symm]
theorem x10_swaps (hn : n ≤ 12) (hm : m 0 = nI n) (hP : ∀ k, k < n → P k ≤ 60 ∧ m (8 + 6 * k) = nI (P k) ∧ m (8 + 6 * k + 2) = zR (L k)) (hR : ∀ k, k < n → m (8 + 6 * k + 2) = zR (L k) ∧ m (8 + 6 * k + 3) = zP (L k)) (inj : ∀ i j, i < n → j < n → L i = L j → L i < 18 → i = j) (hr : r < 3) : f_X10_swaps m (nI r) = some (nI (phi (zCode n P L r))) := by
  have j : ∀ x, x < 2048 → jin (nI x) 2048 = true := fun x hx => by rw [z_jin (by omega)]; simp; omega
  have eg : fb_ct (fun k => zIn L r k && (misB (zCode n P L r) (L k % 6) && !bgL (zCode n P L r) (zLb n L r) (L k % 6))) n = phi (zCode n P L r) := by
    have li : ∀ x y, x < 6 → y < 6 → 0 < cn (zCode n P L r) x → 0 < cn (zCode n P L r) y → zLb n L r x = zLb n L r y → x = y := by
      intro x y hx hy cx cy e
      have ax : zLb n L r x < n := by
        by_cases q : zLb n L r x < n
        · exact q
        · have := zCode_no (P := P) inj hr hx q; omega
      have ay : zLb n L r y < n := by rw [← e]; exact ax
      have s1 : L (zLb n L r x) = r * 6 + x := zAt_slot ax
      have s2 : L (zLb n L r y) = r * 6 + y := zAt_slot ay
      rw [e] at s1
      omega
    rw [← phi_lab (zCode_vB (P := P) inj hr) li]
    apply Nat.le_antisymm
    · refine ct_inj (g := fun x => L x % 6) n _ (fun x hx b => ?_) (fun x y hx hy a b e => ?_)
      · rw [Bool.and_eq_true] at b
        exact ⟨Nat.mod_lt _ (by omega), b.2⟩
      · rw [Bool.and_eq_true] at a b
        have := zIn_place a.1
        have := zIn_place b.1
        exact inj x y hx hy (by omega) (zIn_iff.mp a.1).1
    · refine ct_inj (g := fun p => zLb n L r p) 6 _ (fun p hp' b => ?_) (fun p q hp' hq' a b e => ?_)
      · have cp : 0 < cn (zCode n P L r) p := by
          rw [Bool.and_eq_true] at b
          have := b.1
          unfold misB at this
          rw [Bool.and_eq_true, Nat.blt_eq] at this
          exact this.1
        have ap : zLb n L r p < n := by
          by_cases q : zLb n L r p < n
          · exact q
          · have := zCode_no (P := P) inj hr hp' q; omega
        have s1 : L (zLb n L r p) = r * 6 + p := zAt_slot ap
        refine ⟨ap, ?_⟩
        have : zIn L r (zLb n L r p) = true := zIn_at hr hp' ap
        rw [this, s1, show (r * 6 + p) % 6 = p by omega, Bool.true_and]
        exact b
      · have up : ∀ p, (misB (zCode n P L r) p && !bgL (zCode n P L r) (zLb n L r) p) = true → 0 < cn (zCode n P L r) p := by
          intro p b
          rw [Bool.and_eq_true] at b
          have := b.1
          unfold misB at this
          rw [Bool.and_eq_true, Nat.blt_eq] at this
          exact this.1
        exact li p q hp' hq' (up p a) (up q b) e
  obtain ⟨s, hs, e⟩ := pzG (F := f_X10_swaps_L4 m (nI r)) (n := n) (fun k s => s = nI (fb_ct (fun k => zIn L r k && (misB (zCode n P L r) (L k % 6) && !bgL (zCode n P L r) (zLb n L r) (L k % 6))) k))
    (fun fu s _ => by rw [f_X10_swaps_L4, if_pos (by decide), show (0 : Int32).toNatClampNeg = 0 from rfl, hm, if_pos (nI_le (Nat.le_refl _) (by omega))])
    (fun fu k s hk hs => by
      refine ⟨_, rfl, ?_⟩
      have rk := hR k hk
      rw [f_X10_swaps_L4, if_pos (by decide), show (0 : Int32).toNatClampNeg = 0 from rfl, hm, if_neg (nI_ge hk (by omega)), x10_hammerOf, z_bind, z_bind]
      simp only [z_addl, j (8 + 6 * k + 2) (by omega), j (8 + 6 * k + 3) (by omega), if_true, z_cl (show 8 + 6 * k + 2 < 2147483648 by omega), z_cl (show 8 + 6 * k + 3 < 2147483648 by omega), rk.1, rk.2, hs, fb_ct_succ]
      by_cases c : zIn L r k = true
      · rw [if_pos (show zR (L k) = nI r by rw [zR_eq hr]; exact zIn_iff.mp c), x10_dueR hn hm hP hr hk c, z_bind, c, Bool.true_and, zCode_mis inj hr hk c]
        have rl : zRk n P L r k < 6 := zRk_lt inj hk c
        by_cases d : L k % 6 = zRk n P L r k
        · rw [if_pos (show zP (L k) = nI (zRk n P L r k) by rw [zP_eq rl]; exact ⟨(zIn_iff.mp c).1, d⟩), decide_eq_true d, if_neg (by simp)]
        · rw [if_neg (show ¬ zP (L k) = nI (zRk n P L r k) by rw [zP_eq rl]; exact fun q => d q.2), decide_eq_false d, x10_begins hn hm hP hR inj hr hk c d, z_bind]
          cases b : bgL (zCode n P L r) (zLb n L r) (L k % 6)
          · rw [if_pos (show (if false = true then (1 : Int32) else 0) = 0 by decide), if_pos (show (!false && !false) = true from rfl)]
          · rw [if_pos rfl, if_neg z_n10, if_neg (by simp)]
      · rw [if_neg (show ¬ zR (L k) = nI r by rw [zR_eq hr]; exact fun q => c (zIn_iff.mpr q)), if_neg (show ¬ (zIn L r k && (misB (zCode n P L r) (L k % 6) && !bgL (zCode n P L r) (zLb n L r) (L k % 6))) = true from fun q => by rw [Bool.and_eq_true] at q; exact c q.1)])
    (nI 0) jFU (pz_jFU (by omega)) rfl
  unfold f_X10_swaps
  rw [show f_X10_swaps_L4 m (nI r) jFU 0 0 = f_X10_swaps_L4 m (nI r) jFU (nI 0) (nI 0) from rfl, e, z_bind, hs, eg]
end ZX
def zSw (a b l : Nat) : Nat := if l = a then b else if l = b then a else l
theorem zSw_eq {a b l s : Nat} : zSw a b l = s ↔ l = zSw a b s := by
  unfold zSw
  constructor
  · intro h
    by_cases c : l = a
    · rw [if_pos c] at h
      by_cases d : s = a
      · rw [if_pos d]; omega
      · rw [if_neg d, if_pos h.symm]; exact c
    · rw [if_neg c] at h
      by_cases d : l = b
      · rw [if_pos d] at h; rw [if_pos h.symm]; exact d
      · rw [if_neg d] at h; rw [if_neg (by omega), if_neg (by omega)]; exact h
  · intro h
    by_cases c : s = a
    · rw [if_pos c] at h
      by_cases d : l = a
      · rw [if_pos d]; omega
      · rw [if_neg d, if_pos h]; exact c.symm
    · rw [if_neg c] at h
      by_cases d : s = b
      · rw [if_pos d] at h; rw [if_pos h]; exact d.symm
      · rw [if_neg d] at h; rw [if_neg (by omega), if_neg (by omega)]; exact h
theorem zSw_a (a b : Nat) : zSw a b a = b := by unfold zSw; rw [if_pos rfl]
theorem zSw_b (a b : Nat) : zSw a b b = a := by
  unfold zSw
  by_cases c : b = a
  · rw [if_pos c]; exact c
  · rw [if_neg c, if_pos rfl]
theorem zSw_n {a b l : Nat} (h : l ≠ a) (h' : l ≠ b) : zSw a b l = l := by unfold zSw; rw [if_neg h, if_neg h']
theorem zRH_swap {n r p1 p2 : Nat} {P W L B D : Nat → Nat} {T : Nat} {hc : Int32} {hp hw hs hb hd ht m hs' ht' m' : Nat → Int32} (H : zRH n P W L B D T hc hp hw hs hb hd ht m) (hr : r < 3) (h1 : p1 < 6) (h2 : p2 < 6) (es : ∀ k, k < n → hs' k = zS (zSw (r * 6 + p1) (r * 6 + p2) (L k))) (et : ∀ s, s < 18 → ht' s = ht (zSw (r * 6 + p1) (r * 6 + p2) s)) (em : ∀ x, (∀ k, k < n → x ≠ 8 + 6 * k + 3) → m' x = m x) (em3 : ∀ k, k < n → m' (8 + 6 * k + 3) = zP (zSw (r * 6 + p1) (r * 6 + p2) (L k))) : zRH n P W (fun k => zSw (r * 6 + p1) (r * 6 + p2) (L k)) B D T hc hp hw hs' hb hd ht' m' := by
  obtain ⟨g1, g2, g3, g4, g5, g6, g7, g8, g9, g10⟩ := H
  have b18 : ∀ l, l ≤ 18 → zSw (r * 6 + p1) (r * 6 + p2) l ≤ 18 := by
    intro l hl; unfold zSw; split
    · omega
    · split <;> omega
  have b18' : ∀ l, l < 18 → zSw (r * 6 + p1) (r * 6 + p2) l < 18 := by
    intro l hl; unfold zSw; split
    · omega
    · split <;> omega
  refine ⟨g1, g2, by rw [em 0 (fun k _ => by omega)]; exact g3, fun k hk => ⟨(g4 k hk).1, (g4 k hk).2.1, b18 _ (g4 k hk).2.2⟩, fun k hk => ⟨(g5 k hk).1, (g5 k hk).2.1, es k hk⟩, fun k hk => ?_, fun k hk hl => ?_, fun k hk hk2 => ?_, fun s hs => ?_, fun i j hi hj e hl => ?_⟩
  · have := g6 k hk
    rw [em (8 + 6 * k) (fun k _ => by omega), em (8 + 6 * k + 1) (fun k _ => by omega), em (8 + 6 * k + 2) (fun k _ => by omega)]
    refine ⟨this.1, this.2.1, this.2.2.1.trans ?_, em3 k hk⟩
    show zR (L k) = zR (zSw (r * 6 + p1) (r * 6 + p2) (L k))
    by_cases c : L k = r * 6 + p1
    · rw [c, zSw_a, zR_rp hr h1, zR_rp hr h2]
    · by_cases d : L k = r * 6 + p2
      · rw [d, zSw_b, zR_rp hr h1, zR_rp hr h2]
      · rw [zSw_n c d]
  · have l18 : L k = 18 := by
      have := zSw_eq.mp hl
      rw [zSw_n (by omega) (by omega)] at this
      exact this
    have := g7 k hk l18
    rw [em (8 + 6 * k + 4) (fun k _ => by omega), em (8 + 6 * k + 5) (fun k _ => by omega)]
    exact this
  · rw [em (8 + 6 * k + 1) (fun k _ => by omega)]; exact g8 k hk hk2
  · rw [et s hs, g9 _ (b18' s hs)]
    have : zAt n L (zSw (r * 6 + p1) (r * 6 + p2) s) = zAt n (fun k => zSw (r * 6 + p1) (r * 6 + p2) (L k)) s := by
      refine pzf_cong (fun k hk => ?_)
      have := zSw_eq (a := r * 6 + p1) (b := r * 6 + p2) (l := L k) (s := s)
      rw [Bool.eq_iff_iff, beq_iff_eq, beq_iff_eq]
      exact this.symm
    rw [this]
  · have e1 : L i = L j := by
      have := zSw_eq.mp e
      have q := zSw_eq (a := r * 6 + p1) (b := r * 6 + p2) (l := L j) (s := zSw (r * 6 + p1) (r * 6 + p2) (L j))
      rw [this]
      exact (q.mp rfl).symm
    refine g10 i j hi hj e1 ?_
    have := zSw_eq.mp (rfl : zSw (r * 6 + p1) (r * 6 + p2) (L i) = zSw (r * 6 + p1) (r * 6 + p2) (L i))
    rw [this]
    exact b18' _ hl

/-! PURE: the model's number of swaps: by closed cycles of hammers -/
theorem x10_due {n h : Nat} {P L : Nat → Nat} {m : Nat → Int32} (hn : n ≤ 12) (hm : m 0 = nI n) (hP : ∀ k, k < n → P k ≤ 60 ∧ m (8 + 6 * k) = nI (P k) ∧ m (8 + 6 * k + 2) = zR (L k)) (hh : h < n) : f_X10_due m (nI h) = some (nI (fb_ct (fun x => decide (zR (L x) = zR (L h)) && zBef P x h) n)) := by
  have j : ∀ x, x < 2048 → jin (nI x) 2048 = true := fun x hx => by rw [z_jin (by omega)]; simp; omega
  obtain ⟨s, hs, e⟩ := pzG (F := f_X10_due_L10 m (nI (8 + 6 * h)) (nI h)) (n := n) (fun k s => s = nI (fb_ct (fun x => decide (zR (L x) = zR (L h)) && zBef P x h) k))
    (fun fu s _ => by rw [f_X10_due_L10, if_pos (by decide), show (0 : Int32).toNatClampNeg = 0 from rfl, hm, if_pos (nI_le (Nat.le_refl _) (by omega))])
    (fun fu k s hk hs => by
      refine ⟨_, rfl, ?_⟩
      rw [f_X10_due_L10, if_pos (by decide), show (0 : Int32).toNatClampNeg = 0 from rfl, hm, if_neg (nI_ge hk (by omega)), x10_hammerOf, z_bind, z_bind]
      have p1 := hP k hk
      have p2 := hP h hh
      simp only [z_addl, j (8 + 6 * k) (by omega), j (8 + 6 * h) (by omega), j (8 + 6 * k + 2) (by omega), j (8 + 6 * h + 2) (by omega), if_true, z_cl (show 8 + 6 * k < 2147483648 by omega), z_cl (show 8 + 6 * h < 2147483648 by omega), z_cl (show 8 + 6 * k + 2 < 2147483648 by omega), z_cl (show 8 + 6 * h + 2 < 2147483648 by omega), p1.2.1, p1.2.2, p2.2.1, p2.2.2, hs, fb_ct_succ]
      by_cases c : zR (L k) = zR (L h)
      · rw [if_pos c]
        by_cases c1 : P k < P h
        · rw [if_pos (by rw [z_sub_lt0 (by omega) (by omega)]; exact c1), if_pos (show (decide (zR (L k) = zR (L h)) && zBef P k h) = true by rw [zBef_of (by omega)]; simp [c])]
        · rw [if_neg (by rw [z_sub_lt0 (by omega) (by omega)]; exact c1)]
          by_cases c2 : P k = P h
          · rw [if_pos (by rw [z_sub_eq0 (by omega) (by omega)]; exact c2)]
            by_cases c3 : h ≤ k
            · rw [if_pos (nI_le c3 (by omega)), if_neg (show ¬ (decide (zR (L k) = zR (L h)) && zBef P k h) = true from fun q => by rw [Bool.and_eq_true] at q; have := zBef_lt q.2; omega)]
            · rw [if_neg (nI_ge (by omega) (by omega)), if_pos (show (decide (zR (L k) = zR (L h)) && zBef P k h) = true by rw [zBef_of (by omega)]; simp [c])]
          · rw [if_neg (by rw [z_sub_eq0 (by omega) (by omega)]; exact c2), if_neg (show ¬ (decide (zR (L k) = zR (L h)) && zBef P k h) = true from fun q => by rw [Bool.and_eq_true] at q; have := zBef_lt q.2; omega)]
      · rw [if_neg c, if_neg (show ¬ (decide (zR (L k) = zR (L h)) && zBef P k h) = true from fun q => by rw [Bool.and_eq_true, decide_eq_true_eq] at q; exact c q.1)])
    (nI 0) jFU (pz_jFU (by omega)) rfl
  unfold f_X10_due
  rw [x10_hammerOf, z_bind, show f_X10_due_L10 m (nI (8 + 6 * h)) (nI h) jFU 0 0 = f_X10_due_L10 m (nI (8 + 6 * h)) (nI h) jFU (nI 0) (nI 0) from rfl, e, z_bind, hs]
section ZC
variable {n r : Nat} {P L : Nat → Nat} {m : Nat → Int32}
theorem x10_dueR (hn : n ≤ 12) (hm : m 0 = nI n) (hP : ∀ k, k < n → P k ≤ 60 ∧ m (8 + 6 * k) = nI (P k) ∧ m (8 + 6 * k + 2) = zR (L k)) (hr : r < 3) {h : Nat} (hh : h < n) (hi : zIn L r h = true) : f_X10_due m (nI h) = some (nI (zRk n P L r h)) := by
  rw [x10_due hn hm hP hh]
  have e : zR (L h) = nI r := by rw [zR_eq hr]; exact zIn_iff.mp hi
  have : fb_ct (fun x => decide (zR (L x) = zR (L h)) && zBef P x h) n = zRk n P L r h := by
    unfold zRk
    refine fb_ct_cong (fun x hx => ?_)
    have : decide (zR (L x) = zR (L h)) = zIn L r x := by
      unfold zIn
      rw [e]
      exact decide_eq_decide.mpr (by rw [zR_eq hr])
    rw [this]
  rw [this]
/-- the hammer at a place, as a label -/
def zLb (n : Nat) (L : Nat → Nat) (r p : Nat) : Nat := zAt n L (r * 6 + p)
theorem zCode_nx (inj : ∀ i j, i < n → j < n → L i = L j → L i < 18 → i = j) (hr : r < 3) {q : Nat} (hq : q < 6) (c : zLb n L r q < n) : nx (zCode n P L r) q = zRk n P L r (zLb n L r q) ∧ 0 < cn (zCode n P L r) q := by
  have e := zCode_cn (P := P) inj hr hq
  unfold zDig at e
  unfold zLb at c
  rw [if_pos c] at e
  unfold nx
  rw [e]
  exact ⟨rfl, by omega⟩
theorem zCode_no (inj : ∀ i j, i < n → j < n → L i = L j → L i < 18 → i = j) (hr : r < 3) {q : Nat} (hq : q < 6) (c : ¬ zLb n L r q < n) : cn (zCode n P L r) q = 0 := by
  have e := zCode_cn (P := P) inj hr hq
  unfold zDig at e
  unfold zLb at c
  rw [if_neg c] at e
  exact e
theorem x10_beginsL (hn : n ≤ 12) (hm : m 0 = nI n) (hP : ∀ k, k < n → P k ≤ 60 ∧ m (8 + 6 * k) = nI (P k) ∧ m (8 + 6 * k + 2) = zR (L k)) (hR : ∀ k, k < n → m (8 + 6 * k + 2) = zR (L k) ∧ m (8 + 6 * k + 3) = zP (L k)) (inj : ∀ i j, i < n → j < n → L i = L j → L i < 18 → i = j) (hr : r < 3) {h : Nat} (hh : h < n) (hi : zIn L r h = true) : ∀ f fu q, 0 < f → f ≤ 6 → f < fu → q < 6 → ∃ i x, f_X10_beginsCycle_L26 m (nI r) (nI h) fu (nI (7 - f)) (zO n (zLb n L r q)) = some (nI i, x) ∧ i ≤ 6 ∧ 7 - f ≤ i ∧ (i = 7 - f → x = zO n (zLb n L r q)) ∧ (x = nI h ↔ wkL (zCode n P L r) (zLb n L r) (L h % 6) f q = true) := by
  intro f
  induction f with
  | zero => intro _ _ h; omega
  | succ f ih =>
    intro fu q _ hf hfu hq
    obtain ⟨fu, rfl⟩ : ∃ g, fu = g + 1 := ⟨fu - 1, by omega⟩
    have lh : zLb n L r (L h % 6) = h := by unfold zLb; rw [← zIn_place hi]; exact zAt_of inj hh (zIn_iff.mp hi).1
    rw [f_X10_beginsCycle_L26]
    unfold wkL
    rw [Bool.and_eq_true, Bool.or_eq_true, Bool.and_eq_true, Nat.blt_eq, Nat.blt_eq, nbeq]
    by_cases c : zLb n L r q < n
    · obtain ⟨n1, n2⟩ := zCode_nx (P := P) inj hr hq c
      have ix : zIn L r (zLb n L r q) = true := zIn_at hr hq c
      have eo : zO n (zLb n L r q) = nI (zLb n L r q) := by unfold zO; rw [if_pos c]
      rw [if_neg (show ¬ zO n (zLb n L r q) = -1 by rw [zO_m1 hn]; omega), eo]
      by_cases d : zLb n L r q = h
      · rw [if_pos (show nI (zLb n L r q) = nI h by rw [d])]
        refine ⟨_, _, rfl, by omega, by omega, fun _ => rfl, fun _ => ⟨n2, Or.inl ?_⟩, fun _ => by rw [d]⟩
        have a := zAt_slot c
        have b := zIn_place hi
        have : L (zLb n L r q) = r * 6 + q := a
        rw [d] at this; omega
      · have qp : q ≠ L h % 6 := by rintro rfl; exact d lh
        have nd : ¬ nI (zLb n L r q) = nI h := by rw [z_eq (by omega) (by omega)]; exact d
        rw [if_neg nd]
        by_cases g : zLb n L r q ≤ h
        · rw [if_pos (nI_le g (by omega))]
          refine ⟨_, _, rfl, by omega, by omega, fun _ => rfl, fun e => absurd e nd, fun e => ?_⟩
          rcases e.2 with e | e
          · exact absurd e qp
          · rw [lh] at e; omega
        · rw [if_neg (nI_ge (by omega) (by omega))]
          by_cases f0 : f = 0
          · subst f0
            rw [if_pos (show (6 : Int32) ≤ nI (7 - (0 + 1)) by decide)]
            refine ⟨_, _, rfl, by omega, by omega, fun _ => rfl, fun e => absurd e nd, fun e => ?_⟩
            rcases e.2 with e | e
            · exact absurd e qp
            · exact absurd e.2 (by unfold wkL; decide)
          · rw [if_neg (show ¬ (6 : Int32) ≤ nI (7 - (f + 1)) from nI_ge (b := 6) (by omega) (by omega)), x10_dueR hn hm hP hr c ix, z_bind, ← n1]
            have nl : nx (zCode n P L r) q < 6 := by rw [n1]; exact zRk_lt inj c ix
            rw [x10_standing hn hm hR hr nl, z_bind, nI_1, show 7 - (f + 1) + 1 = 7 - f by omega]
            obtain ⟨i, x, i1, i2, i3, i4, i5⟩ := ih fu (nx (zCode n P L r) q) (by omega) (by omega) (by omega) nl
            refine ⟨i, x, i1, i2, by omega, fun e => by omega, i5.trans ⟨fun e => ⟨n2, Or.inr ⟨by rw [lh]; omega, e⟩⟩, fun e => ?_⟩⟩
            rcases e.2 with e | e
            · exact absurd e qp
            · exact e.2
    · have cz := zCode_no (P := P) inj hr hq c
      have eo : zO n (zLb n L r q) = -1 := by rw [zO_m1 hn]; omega
      rw [if_pos eo]
      refine ⟨_, _, rfl, by omega, by omega, fun _ => rfl, fun e => ?_, fun e => by omega⟩
      rw [eo, z_m1r (by omega)] at e
      exact e.elim
theorem x10_begins (hn : n ≤ 12) (hm : m 0 = nI n) (hP : ∀ k, k < n → P k ≤ 60 ∧ m (8 + 6 * k) = nI (P k) ∧ m (8 + 6 * k + 2) = zR (L k)) (hR : ∀ k, k < n → m (8 + 6 * k + 2) = zR (L k) ∧ m (8 + 6 * k + 3) = zP (L k)) (inj : ∀ i j, i < n → j < n → L i = L j → L i < 18 → i = j) (hr : r < 3) {h : Nat} (hh : h < n) (hi : zIn L r h = true) (mis : L h % 6 ≠ zRk n P L r h) : f_X10_beginsCycle m (nI h) = some (if bgL (zCode n P L r) (zLb n L r) (L h % 6) = true then 1 else 0) := by
  have lh : zLb n L r (L h % 6) = h := by unfold zLb; rw [← zIn_place hi]; exact zAt_of inj hh (zIn_iff.mp hi).1
  have h6 : L h % 6 < 6 := Nat.mod_lt _ (by omega)
  obtain ⟨n1, n2⟩ := zCode_nx (P := P) inj hr h6 (by rw [lh]; exact hh)
  rw [lh] at n1
  have nl : nx (zCode n P L r) (L h % 6) < 6 := by rw [n1]; exact zRk_lt inj hh hi
  have eb : bgL (zCode n P L r) (zLb n L r) (L h % 6) = wkL (zCode n P L r) (zLb n L r) (L h % 6) 6 (nx (zCode n P L r) (L h % 6)) := by
    have : misB (zCode n P L r) (L h % 6) = true := by
      unfold misB
      rw [Bool.and_eq_true, Nat.blt_eq, Bool.not_eq_true', nbne, n1]
      exact ⟨n2, fun e => mis e.symm⟩
    unfold bgL
    rw [this, Bool.true_and]
  obtain ⟨i, x, i1, i2, i3, i4, i5⟩ := x10_beginsL (P := P) hn hm hP hR inj hr hh hi 6 jFU (nx (zCode n P L r) (L h % 6)) (by omega) (by omega) (pz_jFU (by omega)) nl
  have er : zR (L h) = nI r := by rw [zR_eq hr]; exact zIn_iff.mp hi
  have st : f_X10_standing m (nI r) (nI (nx (zCode n P L r) (L h % 6))) = some (zO n (zLb n L r (nx (zCode n P L r) (L h % 6)))) := x10_standing hn hm hR hr nl
  unfold f_X10_beginsCycle
  rw [x10_hammerOf, z_bind, z_addl, if_pos (show jin (nI (8 + 6 * h + 2)) 2048 = true by rw [z_jin (by omega)]; simp; omega), z_cl (by omega), (hR h hh).1, er, x10_dueR hn hm hP hr hh hi, z_bind, ← n1, st, z_bind, show (1 : Int32) = nI (7 - 6) from rfl, i1, z_bind, eb]
  dsimp only
  by_cases w : wkL (zCode n P L r) (zLb n L r) (L h % 6) 6 (nx (zCode n P L r) (L h % 6)) = true
  · have ex := i5.mpr w
    rw [if_pos w, if_pos ex]
    have : ¬ nI i ≤ nI (7 - 6) := by
      rw [z_le (by omega) (by omega)]
      intro c
      have ex2 := i4 (by omega)
      rw [ex] at ex2
      by_cases cl : zLb n L r (nx (zCode n P L r) (L h % 6)) < n
      · unfold zO at ex2
        rw [if_pos cl, z_eq (by omega) (by omega)] at ex2
        have s := zAt_slot cl
        have s2 : L (zLb n L r (nx (zCode n P L r) (L h % 6))) = r * 6 + nx (zCode n P L r) (L h % 6) := s
        rw [← ex2] at s2
        have := zIn_place hi
        omega
      · have q := (zO_m1 hn (k := zLb n L r (nx (zCode n P L r) (L h % 6)))).mpr (by omega)
        rw [q] at ex2
        rw [show (nI h = (-1 : Int32)) = False from z_m1 (by omega)] at ex2
        exact ex2
    rw [if_neg this]
  · rw [if_neg w, if_neg (fun e => w (i5.mp e))]
end ZC

/-! MEANS -/
def lDok (v : UInt64) : Bool := jN64 v && decide (Op.cmpValue (FP.dcmp v v) .l = 0)
theorem l_dd0 : ∀ n, n < 12 → ∀ a, a < 31 → ∀ b, b < 40 → lDok (FP.ddiv (FP.i2d (nI (40 * a + b))) (FP.i2d (nI (n + 1)))) = true := by decide +kernel
theorem l_dd {n s : Nat} (hn : n ≤ 12) (h0 : 0 < n) (hs : s ≤ 1200) : jN64 (FP.ddiv (FP.i2d (nI s)) (FP.i2d (nI n))) = true ∧ Op.cmpValue (FP.dcmp (FP.ddiv (FP.i2d (nI s)) (FP.i2d (nI n))) (FP.ddiv (FP.i2d (nI s)) (FP.i2d (nI n)))) .l = 0 := by
  have h := l_dd0 (n - 1) (by omega) (s / 40) (by omega) (s % 40) (by omega)
  rw [show 40 * (s / 40) + s % 40 = s by omega, show n - 1 + 1 = n by omega] at h
  unfold lDok at h
  rw [Bool.and_eq_true, decide_eq_true_eq] at h
  exact h
theorem l_ff0 : ∀ n, n < 12 → ∀ s, s < 13 → (jN32 (FP.fdiv (FP.i2f (nI s)) (FP.i2f (nI (n + 1)))) && lDok (FP.f2d (FP.fdiv (FP.i2f (nI s)) (FP.i2f (nI (n + 1)))))) = true := by decide +kernel
theorem l_ff {n s : Nat} (hn : n ≤ 12) (h0 : 0 < n) (hs : s ≤ 12) : jN32 (FP.fdiv (FP.i2f (nI s)) (FP.i2f (nI n))) = true ∧ jN64 (FP.f2d (FP.fdiv (FP.i2f (nI s)) (FP.i2f (nI n)))) = true ∧ Op.cmpValue (FP.dcmp (FP.f2d (FP.fdiv (FP.i2f (nI s)) (FP.i2f (nI n)))) (FP.f2d (FP.fdiv (FP.i2f (nI s)) (FP.i2f (nI n))))) .l = 0 := by
  have h := l_ff0 (n - 1) (by omega) s (by omega)
  rw [show n - 1 + 1 = n by omega] at h
  unfold lDok at h
  rw [Bool.and_eq_true, Bool.and_eq_true, decide_eq_true_eq] at h
  exact h
theorem l_smle {W : Nat → Nat} : ∀ n, (∀ k, k < n → W k ≤ 100) → fb_sm W n ≤ 100 * n := by
  intro n
  induction n with
  | zero => intro _; exact Nat.le_refl _
  | succ n ih => intro h; rw [fb_sm_succ]; have := ih (fun k hk => h k (by omega)); have := h n (by omega); omega
theorem l_ctle {q : Nat → Bool} : ∀ n, fb_ct q n ≤ n := by
  intro n
  induction n with
  | zero => exact Nat.le_refl _
  | succ n ih => rw [fb_ct_succ]; split <;> omega
section LMeans
variable {n T : Nat} {P W L B D : Nat → Nat} {hc : Int32} {hp hw hs hb hd ht m : Nat → Int32}
theorem x10_wearL (hn : n ≤ 12) (hm : m 0 = nI n) (hR : ∀ k, k < n → m (8 + 6 * k + 1) = nI (W k)) : f_X10_meanWear_L26 m jFU 0 0 = some (nI n, nI (fb_sm W n)) := by
  obtain ⟨s, hs, e⟩ := pzG (F := f_X10_meanWear_L26 m) (n := n) (fun k s => s = nI (fb_sm W k))
    (fun fu s _ => by
      rw [f_X10_meanWear_L26, if_pos (by decide), show (0 : Int32).toNatClampNeg = 0 from rfl, hm, if_pos (nI_le (Nat.le_refl _) (by omega))])
    (fun fu k s hk hs => by
      refine ⟨_, rfl, ?_⟩
      rw [f_X10_meanWear_L26, if_pos (by decide), show (0 : Int32).toNatClampNeg = 0 from rfl, hm, if_neg (nI_ge hk (by omega)), x10_hammerOf, z_bind, z_addl, if_pos (by rw [z_jin (by omega)]; simp; omega), z_cl (by omega), hR k hk, nI_1, hs, nI_add, fb_sm_succ])
    (nI 0) jFU (pz_jFU (by omega)) rfl
  rw [show (0 : Int32) = nI 0 from rfl, e, hs]
theorem get_meanWear (H : zRH n P W L B D T hc hp hw hs hb hd ht m) (th : Int32) (outD : Nat → UInt64) : ∃ v c outD', f_L_meanWear hc hw outD = some (c, outD') ∧ f_X10_meanWear m th = some (v, c) ∧ (c = 0 → Op.cmpValue (FP.dcmp (outD' 0) v) .l = 0) := by
  obtain ⟨h1, h2, h3, h4, h5, h6, h7, h8, h9, h10⟩ := H
  subst h2
  unfold f_L_meanWear f_X9_meanWear f_X10_meanWear
  rw [show f_X2_size (nI n) = some (nI n) from rfl, z_bind, if_pos (show jin 0 2048 = true by decide), show (0 : Int32).toNatClampNeg = 0 from rfl, h3]
  by_cases c : n = 0
  · subst c
    rw [if_pos (show nI 0 = 0 from rfl), if_pos (show nI 0 = 0 from rfl), z_inl, if_pos rfl]
    exact ⟨_, 1, outD, rfl, rfl, fun h => absurd h (by decide)⟩
  · have ne : ¬ nI n = 0 := nI_ne0 (by omega) (by omega)
    have sm := l_smle n (fun k hk => (h4 k hk).2.1)
    obtain ⟨g1, g2⟩ := l_dd h1 (by omega) (s := fb_sm W n) (by omega)
    rw [if_neg ne, if_neg ne, x2_wearSum h1 (fun k hk => (h5 k hk).2.1), z_bind, if_pos g1, z_inr, if_pos (show jin 0 1 = true by decide), x10_wearL h1 h3 (fun k hk => (h6 k hk).2.1), z_bind, if_pos (show jin 0 2048 = true by decide), if_pos g1]
    exact ⟨_, 0, _, rfl, rfl, fun _ => g2⟩
theorem get_lentShare (H : zRH n P W L B D T hc hp hw hs hb hd ht m) (th : Int32) (outD : Nat → UInt64) : ∃ v c outD', f_L_lentShare hc hs outD = some (c, outD') ∧ f_X10_lentShare m th = some (v, c) ∧ (c = 0 → jN64 (FP.f2d v) = true ∧ Op.cmpValue (FP.dcmp (outD' 0) (FP.f2d v)) .l = 0) := by
  obtain ⟨h1, h2, h3, h4, h5, h6, h7, h8, h9, h10⟩ := H
  subst h2
  unfold f_L_lentShare f_X9_lentShare f_X10_lentShare
  rw [show f_X2_size (nI n) = some (nI n) from rfl, z_bind, if_pos (show jin 0 2048 = true by decide), show (0 : Int32).toNatClampNeg = 0 from rfl, h3]
  by_cases c : n = 0
  · subst c
    rw [if_pos (show nI 0 = 0 from rfl), if_pos (show nI 0 = 0 from rfl), z_inl, if_pos rfl]
    exact ⟨_, 1, outD, rfl, rfl, fun h => absurd h (by decide)⟩
  · have ne : ¬ nI n = 0 := nI_ne0 (by omega) (by omega)
    have sm := l_ctle (q := fun k => decide (18 ≤ L k)) n
    obtain ⟨g1, g2, g3⟩ := l_ff h1 (by omega) (s := fb_ct (fun k => decide (18 ≤ L k)) n) (by omega)
    rw [if_neg ne, if_neg ne, x2_awayCount h1 (fun k hk => (h5 k hk).2.2), z_bind, if_pos g1, z_inr, if_pos g2, if_pos (show jin 0 1 = true by decide), x10_many (L := L) (fun l => decide (18 ≤ l)) h1 h3 (fun k hk => (h6 k hk).2.2.1) (fun l => by rw [zR_m1, decide_eq_true_eq]), z_bind, if_pos (show jin 0 2048 = true by decide), if_pos g1]
    exact ⟨_, 0, _, rfl, rfl, fun _ => ⟨g2, g3⟩⟩
end LMeans
set_option maxHeartbeats 4000000 in
set_option maxRecDepth 100000 in
theorem p_40 {T : Nat} {s : lS} (I : lInv T s) (hT : T < 900000) : ∃ s9, lT_40  s = some s9 ∧ lInv (T + 465) s9 := by
  obtain ⟨IR, IY, IS, IX, IE, IF, IL, IB, IO⟩ := I
  obtain ⟨n, P, W, L, B, D, q, b, d, H, R, G, S⟩ := id IR
  obtain ⟨v, c, out9, h1, h2, h3⟩ := get_meanWear H s.2.2.2.2.2.2.2.2.1.2.2.2.2.2.2.2.2.1 s.2.2.2.2.2.2.2.2.2.2
  apply Exists.intro
  apply And.intro
  · unfold lT_40 f_law_40
    rw [h1, z_bind, h2, z_bind]
    dsimp only
    rw [l_thr, z_bind, if_pos rfl]
    have e : ∀ {α : Type} (x y : Option α), (if c = 0 then if jin 0 1 = true then if (Op.cmpValue (FP.dcmp (out9 (0 : Int32).toNatClampNeg) v) .l) = 0 then x else y else none else x) = x := fun x y => by
      by_cases hc : c = 0
      · rw [if_pos hc, if_pos (show jin 0 1 = true by decide), show (0 : Int32).toNatClampNeg = 0 from rfl, if_pos (h3 hc)]
      · rw [if_neg hc]
    rw [e]
    rfl
  · exact ⟨zRelS_mono IR (by omega), zHist_mono IY (by omega), zSnap_mono IS (by omega), IX, IE, IF, IL, IB, IO⟩
set_option maxHeartbeats 4000000 in
set_option maxRecDepth 100000 in
theorem p_41 {T : Nat} {s : lS} (I : lInv T s) (hT : T < 900000) : ∃ s9, lT_41  s = some s9 ∧ lInv (T + 465) s9 := by
  obtain ⟨IR, IY, IS, IX, IE, IF, IL, IB, IO⟩ := I
  obtain ⟨n, P, W, L, B, D, q, b, d, H, R, G, S⟩ := id IR
  obtain ⟨v, c, out9, h1, h2, h3⟩ := get_lentShare H s.2.2.2.2.2.2.2.2.1.2.2.2.2.2.2.2.2.1 s.2.2.2.2.2.2.2.2.2.2
  apply Exists.intro
  apply And.intro
  · unfold lT_41 f_law_41
    rw [h1, z_bind, h2, z_bind]
    dsimp only
    rw [l_thr, z_bind, if_pos rfl]
    have e : ∀ {α : Type} (x y : Option α), (if c = 0 then if jin 0 1 = true then if jN64 (FP.f2d v) = true then if (Op.cmpValue (FP.dcmp (out9 (0 : Int32).toNatClampNeg) (FP.f2d v)) .l) = 0 then x else y else none else none else x) = x := fun x y => by
      by_cases hc : c = 0
      · rw [if_pos hc, if_pos (show jin 0 1 = true by decide), show (0 : Int32).toNatClampNeg = 0 from rfl, if_pos (h3 hc).1, if_pos (h3 hc).2]
      · rw [if_neg hc]
    rw [e]
    rfl
  · exact ⟨zRelS_mono IR (by omega), zHist_mono IY (by omega), zSnap_mono IS (by omega), IX, IE, IF, IL, IB, IO⟩

/-! PURE: consonance of two hammers, both sides -/
def zov (o : Nat) : Nat := if o = 0 then 0 else if o = 1 then 12 else if o = 2 then 19 else 24
def zMn (u v : Nat) : Nat := if v < u then v else u
theorem zMn_comm (u v : Nat) : zMn u v = zMn v u := by unfold zMn; split <;> split <;> omega
theorem zMn_le (u v : Nat) : zMn u v ≤ u := by unfold zMn; split <;> omega
theorem zMn_le' (u v : Nat) : zMn u v ≤ v := by unfold zMn; split <;> omega
/-- the sum over all pitches of the lesser loudness -/
def zSd (a b : Nat) : Nat := fb_sm (fun x => zMn (zLd a x) (zLd b x)) 85
theorem zSd_comm (a b : Nat) : zSd a b = zSd b a := fb_sm_cong (fun x _ => zMn_comm _ _)
theorem zLd_pos {a x : Nat} (h : 0 < zLd a x) : x = a ∨ x = a + 12 ∨ x = a + 19 ∨ x = a + 24 := by
  unfold zLd at h
  by_cases c0 : x = a
  · exact Or.inl c0
  · rw [if_neg c0] at h
    by_cases c1 : x = a + 12
    · exact Or.inr (Or.inl c1)
    · rw [if_neg c1] at h
      by_cases c2 : x = a + 19
      · exact Or.inr (Or.inr (Or.inl c2))
      · rw [if_neg c2] at h
        by_cases c3 : x = a + 24
        · exact Or.inr (Or.inr (Or.inr c3))
        · rw [if_neg c3] at h; omega
theorem zLd_add (a x : Nat) : zLd a (a + x) = zLd 0 x := by
  unfold zLd
  have e0 : (a + x = a) = (x = 0) := propext (by omega)
  have e1 : (a + x = a + 12) = (x = 0 + 12) := propext (by omega)
  have e2 : (a + x = a + 19) = (x = 0 + 19) := propext (by omega)
  have e3 : (a + x = a + 24) = (x = 0 + 24) := propext (by omega)
  simp only [e0, e1, e2, e3]
theorem zov_24 (o : Nat) : zov o ≤ 24 := by
  unfold zov
  split
  · omega
  · split
    · omega
    · split <;> omega
theorem zSd_four {a : Nat} (b : Nat) (ha : a ≤ 60) : zSd a b = fb_sm (fun o => zMn (zLd a (a + zov o)) (zLd b (a + zov o))) 4 := by
  apply Nat.le_antisymm
  · refine sm_inj (g := fun x => if x = a then 0 else if x = a + 12 then 1 else if x = a + 19 then 2 else 3) 85 _ (fun x hx h0 => ?_) (fun x y hx hy h0 h1 e => ?_)
    · have q := zLd_pos (a := a) (x := x) (by have := zMn_le (zLd a x) (zLd b x); omega)
      have : ∀ o, x = a + zov o → zMn (zLd a (a + zov o)) (zLd b (a + zov o)) = zMn (zLd a x) (zLd b x) := fun o e => by rw [← e]
      rcases q with rfl | rfl | rfl | rfl
      · rw [if_pos rfl]; exact ⟨by omega, this 0 rfl⟩
      · rw [if_neg (by omega), if_pos rfl]; exact ⟨by omega, this 1 rfl⟩
      · rw [if_neg (by omega), if_neg (by omega), if_pos rfl]; exact ⟨by omega, this 2 rfl⟩
      · rw [if_neg (by omega), if_neg (by omega), if_neg (by omega)]; exact ⟨by omega, this 3 rfl⟩
    · have q := zLd_pos (a := a) (x := x) (by have := zMn_le (zLd a x) (zLd b x); omega)
      have r := zLd_pos (a := a) (x := y) (by have := zMn_le (zLd a y) (zLd b y); omega)
      rcases q with rfl | rfl | rfl | rfl <;> rcases r with rfl | rfl | rfl | rfl <;> simp at e <;> omega
  · refine sm_inj (g := fun o => a + zov o) 4 _ (fun o ho h0 => ⟨by have := zov_24 o; omega, rfl⟩) (fun x y hx hy _ _ e => ?_)
    replace e : a + zov x = a + zov y := e
    have k : zov x = zov y := by omega
    have : ∀ x, x < 4 → ∀ y, y < 4 → zov x = zov y → x = y := by decide
    exact this x hx y hy k
theorem zSd_15 {a : Nat} (b : Nat) (ha : a ≤ 60) : zSd a b ≤ 15 := by
  rw [zSd_four b ha, fb_sm_succ, fb_sm_succ, fb_sm_succ, fb_sm_succ, show fb_sm (fun o => zMn (zLd a (a + zov o)) (zLd b (a + zov o))) 0 = 0 from rfl, zLd_add, zLd_add, zLd_add, zLd_add]
  have h0 := zMn_le (zLd 0 (zov 0)) (zLd b (a + zov 0))
  have h1 := zMn_le (zLd 0 (zov 1)) (zLd b (a + zov 1))
  have h2 := zMn_le (zLd 0 (zov 2)) (zLd b (a + zov 2))
  have h3 := zMn_le (zLd 0 (zov 3)) (zLd b (a + zov 3))
  have g0 : zLd 0 (zov 0) = 8 := by decide
  have g1 : zLd 0 (zov 1) = 4 := by decide
  have g2 : zLd 0 (zov 2) = 2 := by decide
  have g3 : zLd 0 (zov 3) = 1 := by decide
  omega
theorem z_jminM {a b : Nat} (ha : a < 2147483648) (hb : b < 2147483648) : jmin (nI a) (nI b) = nI (zMn a b) := z_jmin ha hb
theorem x1_between {a b : Nat} (ha : a ≤ 60) (hb : b ≤ 60) : f_X1_between (nI a) (nI b) = some (nI (zSd a b)) := by
  have ov : ∀ k, k < 4 → jOverI k = nI (zov k) := by
    intro k hk
    match k, hk with
    | 0, _ => rfl
    | 1, _ => rfl
    | 2, _ => rfl
    | 3, _ => rfl
  obtain ⟨s, hs, e⟩ := pzG (F := f_X1_between_L13 4 (nI a) (nI b)) (n := 4) (fun k s => s = nI (fb_sm (fun o => zMn (zLd a (a + zov o)) (zLd b (a + zov o))) k))
    (fun fu s _ => by rw [f_X1_between_L13, if_pos (by decide)])
    (fun fu k s hk hs => by
      refine ⟨_, rfl, ?_⟩
      have z := zov_24 k
      have l1 : f_X1_loudnessAbove (nI (zov k)) = some (nI (zLd a (a + zov k))) := by
        rw [zLd_add]
        have := x1_loudAb (a := 0) (b := zov k) (by omega) (by omega)
        rw [show nI (zov k) - nI 0 = nI (zov k) from Int32.sub_zero _] at this
        exact this
      have b1 := zLd_8 a (a + zov k)
      have b2 := zLd_8 b (a + zov k)
      rw [f_X1_between_L13, if_neg (show ¬ (4 : Int32) ≤ nI k from nI_ge (b := 4) hk (by omega)), if_pos (by rw [z_jin (by omega)]; simp; omega), z_cl (by omega), ov k hk, l1, z_bind, nI_add, x1_loudAb (by omega) (by omega), z_bind, z_jminM (by omega) (by omega), nI_1, hs, nI_add, fb_sm_succ])
    (nI 0) jFU (pz_jFU (by omega)) rfl
  unfold f_X1_between
  rw [show f_X1_between_L13 4 (nI a) (nI b) jFU 0 0 = f_X1_between_L13 4 (nI a) (nI b) jFU (nI 0) (nI 0) from rfl, e, z_bind, hs, zSd_four b ha]
theorem x10_sound {n h g : Nat} {P : Nat → Nat} {m : Nat → Int32} (hn : n ≤ 12) (hP : ∀ k, k < n → P k ≤ 60 ∧ m (8 + 6 * k) = nI (P k)) (hh : h < n) (hg : g < n) : f_X10_sound m (nI h) (nI g) = some (nI (zSd (P h) (P g))) := by
  have j : ∀ x, x < 2048 → jin (nI x) 2048 = true := fun x hx => by rw [z_jin (by omega)]; simp; omega
  obtain ⟨s, hs, e⟩ := pzG (F := f_X10_sound_L5 m (nI h) (nI g)) (n := 85) (fun k s => s = nI (fb_sm (fun x => zMn (zLd (P h) x) (zLd (P g) x)) k))
    (fun fu s _ => by rw [f_X10_sound_L5, if_pos (by decide)])
    (fun fu k s hk hs => by
      refine ⟨_, rfl, ?_⟩
      have p1 := hP h hh
      have p2 := hP g hg
      have b1 := zLd_8 (P h) k
      have b2 := zLd_8 (P g) k
      rw [f_X10_sound_L5, if_neg (show ¬ (84 : Int32) < nI k from nI_nlt (a := 84) (by omega) (by omega)), x10_hammerOf, z_bind, if_pos (j (8 + 6 * h) (by omega)), z_cl (show 8 + 6 * h < 2147483648 by omega), p1.2, x10_loud (by omega) (by omega), z_bind, x10_hammerOf, z_bind, if_pos (j (8 + 6 * g) (by omega)), z_cl (show 8 + 6 * g < 2147483648 by omega), p2.2, x10_loud (by omega) (by omega), z_bind, z_jminM (by omega) (by omega), nI_1, hs, nI_add, fb_sm_succ])
    (nI 0) jFU (pz_jFU (by omega)) rfl
  unfold f_X10_sound
  rw [show f_X10_sound_L5 m (nI h) (nI g) jFU 0 0 = f_X10_sound_L5 m (nI h) (nI g) jFU (nI 0) (nI 0) from rfl, e, z_bind, hs]
  rfl

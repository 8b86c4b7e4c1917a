/-! PURE: the loudest pitch, both sides -/
/-- the least of the loudest of 0..k -/
def zLt (l : Nat → Nat) : Nat → Nat
  | 0 => 0
  | k + 1 => if l (k + 1) ≤ l (zLt l k) then zLt l k else k + 1
theorem zLt_le (l : Nat → Nat) : ∀ k, zLt l k ≤ k := by
  intro k
  induction k with
  | zero => exact Nat.le_refl _
  | succ k ih => unfold zLt; split <;> omega
theorem x1_loudest {n r : Nat} {P L : Nat → Nat} {hp ht : Nat → Int32} (hn : n ≤ 12) (hP : ∀ k, k < n → P k ≤ 60 ∧ hp k = nI (P k)) (hT : ∀ s, s < 18 → ht s = zO n (zAt n L s)) (inj : ∀ i j, i < n → j < n → L i = L j → L i < 18 → i = j) (hr : r < 3) : f_X1_loudestOf (nI n) hp ht (nI r) = some (nI (zLt (zLn n P L r) 84)) := by
  obtain ⟨s, hs, e⟩ := pzG (F := fun fu k (s : Int32 × Int32) => f_X1_loudestOf_L7 (nI n) hp ht (nI r) fu k s.1 s.2) (n := 85) (fun k s => if k = 0 then s = (nI 0, nI 0) else s = (nI (zLn n P L r (zLt (zLn n P L r) (k - 1))), nI (zLt (zLn n P L r) (k - 1))))
    (fun fu s _ => by
      show f_X1_loudestOf_L7 (nI n) hp ht (nI r) (fu + 1) (nI 85) s.1 s.2 = _
      rw [f_X1_loudestOf_L7, if_pos (by decide)])
    (fun fu k s hk hs => by
      show ∃ s' : Int32 × Int32, _ ∧ f_X1_loudestOf_L7 (nI n) hp ht (nI r) (fu + 1) (nI k) s.1 s.2 = f_X1_loudestOf_L7 (nI n) hp ht (nI r) fu (nI (k + 1)) s'.1 s'.2
      refine ⟨(nI (zLn n P L r (zLt (zLn n P L r) k)), nI (zLt (zLn n P L r) k)), by rw [if_neg (show ¬ k + 1 = 0 by omega), Nat.add_sub_cancel], ?_⟩
      rw [f_X1_loudestOf_L7, if_neg (show ¬ (84 : Int32) < nI k from nI_nlt (a := 84) (by omega) (by omega)), x1_loudOf hn hP hT inj hr (by omega), z_bind, nI_1]
      have b0 := zLn_100 hn P L r k
      by_cases k0 : k = 0
      · rw [if_pos k0] at hs
        subst k0
        rw [hs]
        dsimp only
        by_cases c : zLn n P L r 0 ≤ 0
        · rw [if_pos (nI_le c (by omega))]
          show _ = f_X1_loudestOf_L7 (nI n) hp ht (nI r) fu (nI (0 + 1)) (nI (zLn n P L r 0)) (nI 0)
          rw [show zLn n P L r 0 = 0 by omega]
        · rw [if_neg (nI_ge (by omega) (by omega))]
          rfl
      · rw [if_neg k0] at hs
        obtain ⟨k, rfl⟩ : ∃ q, k = q + 1 := ⟨k - 1, by omega⟩
        rw [Nat.add_sub_cancel] at hs
        rw [hs]
        dsimp only
        have b1 := zLn_100 hn P L r (zLt (zLn n P L r) k)
        rw [show zLt (zLn n P L r) (k + 1) = if zLn n P L r (k + 1) ≤ zLn n P L r (zLt (zLn n P L r) k) then zLt (zLn n P L r) k else k + 1 from rfl]
        by_cases c : zLn n P L r (k + 1) ≤ zLn n P L r (zLt (zLn n P L r) k)
        · rw [if_pos (nI_le c (by omega)), if_pos c]
        · rw [if_neg (nI_ge (by omega) (by omega)), if_neg c])
    (nI 0, nI 0) jFU (pz_jFU (by omega)) rfl
  unfold f_X1_loudestOf
  rw [if_neg (show ¬ 85 = 0 by omega)] at hs
  rw [show f_X1_loudestOf_L7 (nI n) hp ht (nI r) jFU 0 0 0 = some (nI 85, s) from e, z_bind, hs]
theorem x10_loudest {n r : Nat} {P L : Nat → Nat} {m : Nat → Int32} (hn : n ≤ 12) (hm : m 0 = nI n) (hP : ∀ k, k < n → P k ≤ 60 ∧ m (8 + 6 * k) = nI (P k) ∧ m (8 + 6 * k + 2) = zR (L k)) (hr : r < 3) : Option.bind (f_X10_loudestPitch_L36 m (nI r) jFU 1 0) (fun s => some (s.2, (0 : Int32))) = some (nI (zLt (zLn n P L r) 84), 0) := by
  have := pzC (F := fun fu k (s : Int32) => f_X10_loudestPitch_L36 m (nI r) fu k s) (n := 85) (I := fun k s => 1 ≤ k ∧ s = nI (zLt (zLn n P L r) (k - 1))) (Q := fun o => o = some (nI 85, nI (zLt (zLn n P L r) 84)))
    (fun fu s hs => by
      show f_X10_loudestPitch_L36 m (nI r) (fu + 1) (nI 85) s = _
      rw [f_X10_loudestPitch_L36, if_pos (by decide), hs.2])
    (fun fu k s hk hs => by
      refine Or.inr ?_
      show ∃ s' : Int32, _ ∧ f_X10_loudestPitch_L36 m (nI r) (fu + 1) (nI k) s = f_X10_loudestPitch_L36 m (nI r) fu (nI (k + 1)) s'
      obtain ⟨k1, hs⟩ := hs
      obtain ⟨k, rfl⟩ : ∃ q, k = q + 1 := ⟨k - 1, by omega⟩
      rw [Nat.add_sub_cancel] at hs
      refine ⟨_, ⟨by omega, rfl⟩, ?_⟩
      have lt := zLt_le (zLn n P L r) k
      have b0 := zLn_100 hn P L r (k + 1)
      have b1 := zLn_100 hn P L r (zLt (zLn n P L r) k)
      rw [f_X10_loudestPitch_L36, if_neg (show ¬ (84 : Int32) < nI (k + 1) from nI_nlt (a := 84) (by omega) (by omega)), x10_loudIn hn hm hP hr (by omega), z_bind, hs, x10_loudIn hn hm hP hr (by omega), z_bind, nI_1, Nat.add_sub_cancel]
      rw [show zLt (zLn n P L r) (k + 1) = if zLn n P L r (k + 1) ≤ zLn n P L r (zLt (zLn n P L r) k) then zLt (zLn n P L r) k else k + 1 from rfl]
      by_cases c : zLn n P L r (k + 1) ≤ zLn n P L r (zLt (zLn n P L r) k)
      · rw [if_pos (nI_le c (by omega)), if_pos c]
      · rw [if_neg (nI_ge (by omega) (by omega)), if_neg c])
    84 1 (nI 0) jFU rfl (pz_jFU (by omega)) ⟨by omega, rfl⟩
  rw [show f_X10_loudestPitch_L36 m (nI r) jFU 1 0 = some (nI 85, nI (zLt (zLn n P L r) 84)) from this, z_bind]

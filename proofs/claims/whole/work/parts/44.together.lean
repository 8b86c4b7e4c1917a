/-! PURE: the most grants are made, on both sides -/
theorem x10_inner {all q n r g u M R : Nat} {mk : Nat → Nat} {gf m g0 : Nat → Int32} (hq : q ≤ 8) (hn : n ≤ 12) (hm0 : m 0 = nI n) (hm4 : m 4 = nI q) (hgf : ∀ r, r < q → gf r = nI (mk r)) (hmk : ∀ r, r < q → mk r < 4096) (hmn : ∀ r h, r < q → n ≤ h → (mk r).testBit h = false) (hM : M < 4096) (hu : u < 4096) (hMu : ∀ h, h < n → M.testBit h = u.testBit h)
    (hR : ∀ x, R.testBit x = (decide (r + 1 ≤ x) && decide (x < q))) (hRlt : R < 4096) (hr : r < q) (hg8 : g ≤ 8) (hall : all < 1000) (h0 : g0 r = -1) :
    ∃ x g1, f_X10_mostIt_L113 m gf (nI R) (nI r) (nI g) (nI M) (nI all) jFU (nI 0) g0 = some (x, g1) ∧ g1 r = zO 12 (zSel all q mk r g u) ∧ ∀ j, j ≠ r → g1 j = g0 j := by
  have key := pzC (F := fun fu x (s : Nat → Int32) => f_X10_mostIt_L113 m gf (nI R) (nI r) (nI g) (nI M) (nI all) fu x s) (n := n)
    (I := fun k s => (∀ j, j ≠ r → s j = g0 j) ∧ ((s r = -1 ∧ ∀ j, j < k → ((mk r).testBit j && u.testBit j && decide (g + 1 + zGf (r + 1) q mk (zCl u j) = all)) = false) ∨ (zSel all q mk r g u < 12 ∧ s r = nI (zSel all q mk r g u))))
    (Q := fun o => ∃ x g1, o = some (x, g1) ∧ g1 r = zO 12 (zSel all q mk r g u) ∧ ∀ j, j ≠ r → g1 j = g0 j)
    (fun fu s hI => by
      refine ⟨nI n, s, ?_, ?_, hI.1⟩
      · show f_X10_mostIt_L113 m gf (nI R) (nI r) (nI g) (nI M) (nI all) (fu + 1) (nI n) s = _
        rw [f_X10_mostIt_L113, if_pos (by decide), show (0 : Int32).toNatClampNeg = 0 from rfl, hm0, if_pos (nI_le (Nat.le_refl _) (by omega))]
      · rcases hI.2 with ⟨a, b⟩ | ⟨a, b⟩
        · have : zSel all q mk r g u = 12 := pzf_none.mpr (fun j hj => by
            rcases Nat.lt_or_ge j n with z | z
            · exact b j z
            · rw [hmn r j hr z]; rfl)
          rw [this, a]; rfl
        · rw [b]; unfold zO; rw [if_pos a])
    (fun fu k s hk hI => by
      have jr : jin (nI r) 8 = true := by rw [z_jin (by omega)]; simp; omega
      show (∃ x g1, f_X10_mostIt_L113 m gf (nI R) (nI r) (nI g) (nI M) (nI all) (fu + 1) (nI k) s = _ ∧ _) ∨ ∃ s' : Nat → Int32, _ ∧ f_X10_mostIt_L113 m gf (nI R) (nI r) (nI g) (nI M) (nI all) (fu + 1) (nI k) s = f_X10_mostIt_L113 m gf (nI R) (nI r) (nI g) (nI M) (nI all) fu (nI (k + 1)) s'
      rw [f_X10_mostIt_L113, if_pos (by decide), show (0 : Int32).toNatClampNeg = 0 from rfl, hm0, if_neg (nI_ge hk (by omega)), if_pos jr, z_cl (show r < 2147483648 by omega)]
      rcases hI.2 with ⟨a, b⟩ | ⟨a, b⟩
      · rw [if_pos a, if_pos jr, hgf r hr, fa_and]
        simp only [z_bit1 (show mk r &&& M < 2147483648 from Nat.lt_of_le_of_lt Nat.and_le_left (by have := hmk r hr; omega)) (show k < 31 by omega), Nat.testBit_and, hMu k hk]
        by_cases c : ((mk r).testBit k && u.testBit k) = true
        · have c2 := c
          rw [Bool.and_eq_true] at c2
          rw [if_pos c, z_one k (by omega), z_clr]
          obtain ⟨G, e1, e2⟩ := x10_most (f := r + 1) hq hm4 hgf hmk hR hRlt (zCl_lt (n := 12) (k := k) hM)
          have e3 : zMin (r + 1) q mk (fun h => (zCl u k).testBit h) G := zMin_cong (fun j hj ⟨y, y1, y2⟩ => by
            rw [zCl_bit, zCl_bit]
            rcases Nat.lt_or_ge j n with z | z
            · rw [hMu j z]
            · rw [hmn y j y1 z] at y2; cases y2) e2
          have eG := zGf_eq e3
          have G8 := (zGf_min hq hmk (zCl_lt (n := 12) (k := k) hu) (show r + 1 ≤ q by omega)).2
          rw [e1, z_bind, nI_1, nI_1, nI_add]
          simp only [z_eq (show g + 1 + G < 2147483648 by omega) (show all < 2147483648 by omega)]
          by_cases d : g + 1 + G = all
          · have es : zSel all q mk r g u = k := by
              unfold zSel
              exact pzf_eq (by omega) (by rw [c, eG]; simp; exact d) b
            rw [if_pos d, if_pos jr]
            exact Or.inr ⟨upd s r (nI k), ⟨fun j hj => by rw [z_updn _ hj]; exact hI.1 j hj, Or.inr ⟨by omega, by rw [z_upds, es]⟩⟩, rfl⟩
          · rw [if_neg d]
            refine Or.inr ⟨s, ⟨hI.1, Or.inl ⟨a, fun j hj => ?_⟩⟩, rfl⟩
            rcases Nat.lt_or_ge j k with z | z
            · exact b j z
            · obtain rfl : j = k := by omega
              rw [c, eG]; simp; exact d
        · rw [if_neg c, nI_1]
          refine Or.inr ⟨s, ⟨hI.1, Or.inl ⟨a, fun j hj => ?_⟩⟩, rfl⟩
          rcases Nat.lt_or_ge j k with z | z
          · exact b j z
          · obtain rfl : j = k := by omega
            have : ((mk r).testBit j && u.testBit j) = false := by simpa using c
            rw [this]; rfl
      · rw [if_neg (by rw [b]; exact zm1_ne (by omega))]
        exact Or.inl ⟨_, s, rfl, by rw [b]; unfold zO; rw [if_pos a], hI.1⟩)
    n 0 g0 jFU (by omega) (pz_jFU (by omega)) ⟨fun j _ => rfl, Or.inl ⟨h0, fun j hj => by omega⟩⟩
  exact key
theorem zClM {q r R : Nat} (hR : ∀ x, R.testBit x = (decide (r ≤ x) && decide (x < q))) : ∀ x, (zCl R r).testBit x = (decide (r + 1 ≤ x) && decide (x < q)) := by
  intro x
  rw [zCl_bit, hR]
  by_cases c : x = r
  · subst c
    have : ¬ x + 1 ≤ x := by omega
    simp [this]
  · have : decide (r + 1 ≤ x) = decide (r ≤ x) := by
      by_cases z : r ≤ x
      · have : r + 1 ≤ x := by omega
        simp [z, this]
      · have : ¬ r + 1 ≤ x := by omega
        simp [z, this]
    rw [this]; simp [c]
theorem zOnes_bit (n x : Nat) : (2 ^ n - 1).testBit x = decide (x < n) := by rw [Nat.testBit_two_pow_sub_one]
theorem z_ones (k : Nat) (hk : k < 31) : (1 : Int32) <<< (nI k &&& 31) - 1 = nI (2 ^ k - 1) := by
  rw [z_one k hk, z_subl (Nat.two_pow_pos k)]
theorem x10_outer {q n : Nat} {mk : Nat → Nat} {gf m : Nat → Int32} (g0 : Nat → Int32) (hq : q ≤ 8) (hn : n ≤ 12) (hm0 : m 0 = nI n) (hm4 : m 4 = nI q) (hgf : ∀ r, r < q → gf r = nI (mk r)) (hmk : ∀ r, r < q → mk r < 4096) (hmn : ∀ r h, r < q → n ≤ h → (mk r).testBit h = false) :
    ∃ x4 x3 gv, f_X10_mostIt_L80 m gf (nI (zGf 0 q mk 4095)) jFU (nI 0) (nI 0) (nI (2 ^ q - 1)) (nI (2 ^ n - 1)) g0 = some (nI q, nI (zCh (zGf 0 q mk 4095) q mk q).1, x4, x3, gv) ∧ ∀ r, r < q → gv r = zO 12 ((zCh (zGf 0 q mk 4095) q mk q).2.2 r) := by
  have n4096 : 2 ^ n - 1 < 4096 := by
    have : 2 ^ n ≤ 2 ^ 12 := Nat.pow_le_pow_right (by omega) hn
    have : 0 < 2 ^ n := Nat.two_pow_pos n
    omega
  have q4096 : 2 ^ q - 1 < 4096 := by
    have := z_pow256 hq
    omega
  have g8 := (zGf_min hq hmk (show 4095 < 4096 by omega) (Nat.zero_le q)).2
  generalize hG : zGf 0 q mk 4095 = G at g8 ⊢
  obtain ⟨s, hs, e3⟩ := pzG (F := fun fu x (s : Int32 × Int32 × Int32 × (Nat → Int32)) => f_X10_mostIt_L80 m gf (nI G) fu x s.1 s.2.1 s.2.2.1 s.2.2.2) (n := q)
    (fun k s => s.1 = nI (zCh G q mk k).1 ∧ (∃ R, s.2.1 = nI R ∧ R < 4096 ∧ ∀ x, R.testBit x = (decide (k ≤ x) && decide (x < q))) ∧ (∃ M, s.2.2.1 = nI M ∧ M < 4096 ∧ ∀ h, h < n → M.testBit h = (zCh G q mk k).2.1.testBit h) ∧ ∀ r, r < k → s.2.2.2 r = zO 12 ((zCh G q mk k).2.2 r))
    (fun fu s _ => by
      show f_X10_mostIt_L80 m gf (nI G) (fu + 1) (nI q) s.1 s.2.1 s.2.2.1 s.2.2.2 = _
      rw [f_X10_mostIt_L80, if_pos (by decide), show (4 : Int32).toNatClampNeg = 4 from rfl, hm4, if_pos (nI_le (Nat.le_refl _) (by omega))])
    (fun fu k s hk hs => by
      obtain ⟨s1, s2, s3, s4⟩ := s
      obtain ⟨h1, ⟨R, h2, hRlt, hR⟩, ⟨M, h3, hM, hMu⟩, h4⟩ := hs
      simp only at h1 h2 h3 h4
      subst h1 h2 h3
      obtain ⟨i1, i2, i3, i4, i5⟩ := zCh_inv hq hmk hG.symm k (by omega)
      have jk : jin (nI k) 8 = true := by rw [z_jin (by omega)]; simp; omega
      obtain ⟨x, g1, f1, f2, f3⟩ := x10_inner (all := G) (g0 := upd s4 k (-1)) (r := k) (g := (zCh G q mk k).1) hq hn hm0 hm4 hgf hmk hmn hM i1 hMu (zClM hR) (zCl_lt (n := 12) (k := k) hRlt) hk (by omega) (by omega) (z_upds _ _ _)
      show ∃ s' : Int32 × Int32 × Int32 × (Nat → Int32), _ ∧ f_X10_mostIt_L80 m gf (nI G) (fu + 1) (nI k) (nI (zCh G q mk k).1) (nI R) (nI M) s4 = f_X10_mostIt_L80 m gf (nI G) fu (nI (k + 1)) s'.1 s'.2.1 s'.2.2.1 s'.2.2.2
      rw [f_X10_mostIt_L80, if_pos (by decide), show (4 : Int32).toNatClampNeg = 4 from rfl, hm4, if_neg (nI_ge hk (by omega)), if_pos jk, z_one k (by omega), z_clr, z_cl (show k < 2147483648 by omega), show ∀ z, f_X10_mostIt_L113 m gf (nI (zCl R k)) (nI k) (nI (zCh G q mk k).1) (nI M) (nI G) jFU 0 z = f_X10_mostIt_L113 m gf (nI (zCl R k)) (nI k) (nI (zCh G q mk k).1) (nI M) (nI G) jFU (nI 0) z from fun _ => rfl, f1, z_bind, if_pos jk]
      by_cases c : zSel G q mk k (zCh G q mk k).1 (zCh G q mk k).2.1 < 12
      · have e : zO 12 (zSel G q mk k (zCh G q mk k).1 (zCh G q mk k).2.1) = nI (zSel G q mk k (zCh G q mk k).1 (zCh G q mk k).2.1) := by unfold zO; rw [if_pos c]
        simp only [f2, e]
        rw [if_neg (show ¬ nI (zSel G q mk k (zCh G q mk k).1 (zCh G q mk k).2.1) = -1 by rw [z_m1 (by omega)]; exact id), if_pos jk, z_one _ (by omega), z_clr, nI_1, nI_1]
        unfold jlet
        refine ⟨(_, _, _, _), ⟨?_, ⟨zCl R k, rfl, zCl_lt (n := 12) hRlt, zClM hR⟩, ⟨_, rfl, zCl_lt (n := 12) hM, fun h hh => ?_⟩, fun r hr => ?_⟩, rfl⟩
        · show nI ((zCh G q mk k).1 + 1) = nI (zCh G q mk (k + 1)).1
          rw [zCh, if_pos c]
        · rw [zCh, if_pos c, zCl_bit, zCl_bit, hMu h hh]
        · show g1 r = zO 12 ((zCh G q mk (k + 1)).2.2 r)
          rw [zCh, if_pos c]
          by_cases e9 : r = k
          · rw [e9, f2]; show _ = zO 12 (va_up _ k _ k); rw [va_ups]
          · rw [f3 r e9, z_updn _ e9]; show _ = zO 12 (va_up _ k _ r); rw [va_upn _ e9]; exact h4 r (by omega)
      · have e : zO 12 (zSel G q mk k (zCh G q mk k).1 (zCh G q mk k).2.1) = -1 := by unfold zO; rw [if_neg c]
        simp only [f2, e]
        first | rw [if_pos rfl, nI_1] | rw [nI_1]
        refine ⟨(nI (zCh G q mk k).1, nI (zCl R k), nI M, g1), ⟨?_, ⟨zCl R k, rfl, zCl_lt (n := 12) hRlt, zClM hR⟩, ⟨M, rfl, hM, fun h hh => ?_⟩, fun r hr => ?_⟩, rfl⟩
        · show nI (zCh G q mk k).1 = nI (zCh G q mk (k + 1)).1
          rw [zCh, if_neg c]
        · rw [zCh, if_neg c]; exact hMu h hh
        · show g1 r = zO 12 ((zCh G q mk (k + 1)).2.2 r)
          rw [zCh, if_neg c]
          by_cases e9 : r = k
          · rw [e9, f2, e]
            show -1 = zO 12 ((zCh G q mk k).2.2 k)
            rw [i4 k (Nat.le_refl _)]; rfl
          · rw [f3 r e9, z_updn _ e9]; exact h4 r (by omega))
    (nI 0, nI (2 ^ q - 1), nI (2 ^ n - 1), g0) jFU (pz_jFU (by omega)) ⟨rfl, ⟨_, rfl, q4096, fun x => by rw [zOnes_bit]; simp⟩, ⟨_, rfl, n4096, fun h hh => by
      rw [zOnes_bit]
      show decide (h < n) = (4095 : Nat).testBit h
      have : ∀ h, h < 12 → (4095 : Nat).testBit h = true := by decide
      rw [this h (by omega)]; simp [hh]⟩, fun r hr => by omega⟩
  obtain ⟨s1, s2, s3, s4⟩ := s
  obtain ⟨h1, h2, h3, h4⟩ := hs
  simp only at h1 h4
  have e3' : f_X10_mostIt_L80 m gf (nI G) jFU (nI 0) (nI 0) (nI (2 ^ q - 1)) (nI (2 ^ n - 1)) g0 = some (nI q, s1, s2, s3, s4) := e3
  exact ⟨s2, s3, s4, by rw [e3', h1], h4⟩

/-! PURE: the class' table of consonances -/
def zSt (L : Nat → Nat) (k : Nat) : Bool := decide (L k < 18)
def zCn (n : Nat) (P L : Nat → Nat) (i j : Nat) : Nat := zSd (P (zEn n (zSt L) i)) (P (zEn n (zSt L) j))
theorem x1_load {n : Nat} {P L : Nat → Nat} {hp hs : Nat → Int32} (c0 : Int32) (cp0 cc0 : Nat → Int32) (hn : n ≤ 12) (hP : ∀ k, k < n → P k ≤ 60 ∧ hp k = nI (P k)) (hS : ∀ k, k < n → hs k = zS (L k)) : ∃ cp cc, f_X1_load c0 cp0 cc0 (nI n) hp hs = some (nI (fb_ct (zSt L) n), cp, cc) ∧ ∀ i j, i < fb_ct (zSt L) n → j < fb_ct (zSt L) n → cc (i * 12 + j) = nI (zCn n P L i j) := by
  have cn12 := fb_ct_le (zSt L) n
  obtain ⟨s, ⟨s1, s2⟩, e⟩ := pzG (F := fun fu k (s : Int32 × (Nat → Int32)) => f_X1_load_L7 (nI n) hp hs fu k s.1 s.2) (n := n) (fun k s => s.1 = nI (fb_ct (zSt L) k) ∧ ∀ h, h < k → zSt L h = true → s.2 (fb_ct (zSt L) h) = nI (P h))
    (fun fu s _ => by
      show f_X1_load_L7 (nI n) hp hs (fu + 1) (nI n) s.1 s.2 = _
      rw [f_X1_load_L7, show f_X2_size (nI n) = some (nI n) from rfl, z_bind, if_pos (nI_le (Nat.le_refl _) (by omega))])
    (fun fu k s hk hs' => by
      obtain ⟨s1, s2⟩ := hs'
      have ck := fb_ct_le (zSt L) k
      show ∃ s' : Int32 × (Nat → Int32), _ ∧ f_X1_load_L7 (nI n) hp hs (fu + 1) (nI k) s.1 s.2 = f_X1_load_L7 (nI n) hp hs fu (nI (k + 1)) s'.1 s'.2
      rw [f_X1_load_L7, show f_X2_size (nI n) = some (nI n) from rfl, z_bind, if_neg (nI_ge hk (by omega)), s1, if_neg (show ¬ (12 : Int32) ≤ nI (fb_ct (zSt L) k) from nI_ge (b := 12) (by omega) (by omega)), x2_isAway hs hn hk (hS k hk), z_bind, nI_1]
      by_cases c : L k < 18
      · have st : zSt L k = true := decide_eq_true c
        rw [if_pos (show (if 18 ≤ L k then (1 : Int32) else 0) = 0 by rw [if_neg (by omega)]), x2_pitchOf hp hn hk, z_bind, (hP k hk).2, if_pos (by rw [z_jin (by omega)]; simp; omega), z_cl (by omega), nI_1]
        refine ⟨(nI (fb_ct (zSt L) k + 1), upd s.2 (fb_ct (zSt L) k) (nI (P k))), ⟨by rw [fb_ct_succ, if_pos st], fun h hh q => ?_⟩, rfl⟩
        show upd s.2 (fb_ct (zSt L) k) (nI (P k)) (fb_ct (zSt L) h) = _
        by_cases e : h = k
        · rw [e, z_upds]
        · rw [z_updn _ (fun e2 => e (fb_ct_kth_one q st e2))]
          exact s2 h (by omega) q
      · have st : zSt L k = false := decide_eq_false c
        rw [if_neg (show ¬ (if 18 ≤ L k then (1 : Int32) else 0) = 0 by rw [if_pos (by omega)]; decide)]
        refine ⟨(nI (fb_ct (zSt L) k), s.2), ⟨by rw [fb_ct_succ, if_neg (by rw [st]; decide)]; rfl, fun h hh q => ?_⟩, rfl⟩
        by_cases e : h = k
        · rw [e, st] at q; cases q
        · exact s2 h (by omega) q)
    (0, cp0) jFU (pz_jFU (by omega)) ⟨rfl, fun h hh => by omega⟩
  have cp : ∀ i, i < fb_ct (zSt L) n → s.2 i = nI (P (zEn n (zSt L) i)) ∧ P (zEn n (zSt L) i) ≤ 60 := by
    intro i hi
    obtain ⟨h1, h2, h3⟩ := zEn_ok hi
    have := s2 _ h1 h2
    rw [h3] at this
    exact ⟨this, (hP _ h1).1⟩
  have inner : ∀ i f, i < fb_ct (zSt L) n → ∃ f', f_X1_load_L74 (nI (fb_ct (zSt L) n)) s.2 (nI i) jFU (nI 0) f = some (nI (fb_ct (zSt L) n), f') ∧ (∀ j, j < fb_ct (zSt L) n → f' (i * 12 + j) = nI (zCn n P L i j)) ∧ ∀ z, z < i * 12 → f' z = f z := by
    intro i f hi
    obtain ⟨f', ⟨f1, f2⟩, e⟩ := pzG (F := f_X1_load_L74 (nI (fb_ct (zSt L) n)) s.2 (nI i)) (n := fb_ct (zSt L) n) (fun k g => (∀ j, j < k → g (i * 12 + j) = nI (zCn n P L i j)) ∧ ∀ z, z < i * 12 → g z = f z)
      (fun fu g _ => by rw [f_X1_load_L74, if_pos (nI_le (Nat.le_refl _) (by omega))])
      (fun fu k g hk hg => by
        obtain ⟨g1, g2⟩ := hg
        have a := cp i hi
        have b := cp k hk
        rw [f_X1_load_L74, if_neg (nI_ge hk (by omega)), if_pos (show jin (nI i) 12 = true by rw [z_jin (by omega)]; simp; omega), if_pos (show jin (nI k) 12 = true by rw [z_jin (by omega)]; simp; omega), z_cl (show i < 2147483648 by omega), z_cl (show k < 2147483648 by omega), a.1, b.1, x1_between a.2 b.2, z_bind, show nI i * 12 + nI k = nI (i * 12 + k) by rw [z_mull, nI_add], if_pos (by rw [z_jin (by omega)]; simp; omega), z_cl (by omega), nI_1]
        refine ⟨_, ⟨fun j hj => ?_, fun z hz => ?_⟩, rfl⟩
        · by_cases e : j = k
          · rw [e, z_upds]; rfl
          · rw [z_updn _ (by omega)]; exact g1 j (by omega)
        · rw [z_updn _ (by omega)]; exact g2 z hz)
      f jFU (pz_jFU (by omega)) ⟨fun j hj => by omega, fun z _ => rfl⟩
    exact ⟨f', e, f1, f2⟩
  obtain ⟨f, f1, e2⟩ := pzG (F := f_X1_load_L64 (nI (fb_ct (zSt L) n)) s.2) (n := fb_ct (zSt L) n) (fun q g => ∀ i j, i < q → j < fb_ct (zSt L) n → g (i * 12 + j) = nI (zCn n P L i j))
    (fun fu g _ => by rw [f_X1_load_L64, if_pos (nI_le (Nat.le_refl _) (by omega))])
    (fun fu q g hq hg => by
      obtain ⟨g', g1, g2, g3⟩ := inner q g hq
      rw [f_X1_load_L64, if_neg (nI_ge hq (by omega)), show f_X1_load_L74 (nI (fb_ct (zSt L) n)) s.2 (nI q) jFU 0 g = _ from g1, z_bind, nI_1]
      refine ⟨g', fun i j hi hj => ?_, rfl⟩
      by_cases e : i = q
      · rw [e]; exact g2 j hj
      · rw [g3 _ (by omega)]; exact hg i j (by omega) hj)
    cc0 jFU (pz_jFU (by omega)) (fun i j hi => by omega)
  refine ⟨s.2, f, ?_, f1⟩
  unfold f_X1_load
  rw [show f_X1_load_L7 (nI n) hp hs jFU 0 0 cp0 = some (nI n, s) from e, z_bind]
  dsimp only
  rw [s1, show f_X1_load_L64 (nI (fb_ct (zSt L) n)) s.2 jFU 0 cc0 = some (nI (fb_ct (zSt L) n), f) from e2, z_bind]
theorem zCn_15 {n : Nat} {P L : Nat → Nat} (hP : ∀ k, k < n → P k ≤ 60) : ∀ i j, i < fb_ct (zSt L) n → j < fb_ct (zSt L) n → zCn n P L i j ≤ 15 := fun i j hi _ => zSd_15 _ (hP _ (zEn_ok hi).1)
theorem zCn_sym (n : Nat) (P L : Nat → Nat) (i j : Nat) : zCn n P L i j = zCn n P L j i := zSd_comm _ _

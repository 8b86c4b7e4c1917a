/-! PURE: exchanging two places, to both sides -/
theorem zRH_code {n r : Nat} {P W L B D : Nat → Nat} {T : Nat} {hc : Int32} {hp hw hs hb hd ht m : Nat → Int32} (H : zRH n P W L B D T hc hp hw hs hb hd ht m) (hr : r < 3) : f_X7_codeOf (nI n) hp ht (nI r) = some (nI (zCode n P L r)) ∧ f_X7_leastSwaps (nI (zCode n P L r)) = some (nI (phi (zCode n P L r))) ∧ f_X7_swapsByCycles (nI (zCode n P L r)) = some (nI (phi (zCode n P L r))) ∧ f_X10_swaps m (nI r) = some (nI (phi (zCode n P L r))) ∧ phi (zCode n P L r) ≤ 5 := by
  obtain ⟨h1, h2, h3, h4, h5, h6, h7, h8, h9, h10⟩ := H
  have v := zCode_vB (P := P) h10 hr
  exact ⟨x7_codeOf h1 (fun k hk => ⟨(h4 k hk).1, (h5 k hk).1⟩) h9 h10 hr, x7_leastSwaps v, x7_swapsByCycles v, x10_swaps h1 h3 (fun k hk => ⟨(h4 k hk).1, (h6 k hk).1, (h6 k hk).2.2.1⟩) (fun k hk => (h6 k hk).2.2) h10 hr, (phi_facts v).2.2.1⟩
theorem zAt_none {n : Nat} {L : Nat → Nat} {s : Nat} (h : ¬ zAt n L s < n) : ∀ k, k < n → L k ≠ s := fun k hk e => h (pzf_lt.mpr ⟨k, hk, by simp [e]⟩)
theorem zAt_only {n : Nat} {L : Nat → Nat} {s : Nat} (inj : ∀ i j, i < n → j < n → L i = L j → L i < 18 → i = j) (h : zAt n L s < n) (hs : s < 18) : ∀ k, k < n → k ≠ zAt n L s → L k ≠ s := fun k hk ne e => ne (inj k _ hk h (by rw [zAt_slot h]; exact e) (by omega))
theorem zSw_upd {ht : Nat → Int32} {a b : Nat} {x y : Int32} (hx : x = ht b) (hy : y = ht a) (s : Nat) : upd (upd ht a x) b y s = ht (zSw a b s) := by
  by_cases c : s = b
  · rw [c, z_upds, zSw_b]; exact hy
  · rw [z_updn _ c]
    by_cases d : s = a
    · rw [d, z_upds, zSw_a]; exact hx
    · rw [z_updn _ d, zSw_n d c]
theorem op_exchange {T : Nat} {hc : Int32} {hp hw hs hb hd ht : Nat → Int32} {rc rn : Int32} {ri rb rp rt rf rl : Nat → Int32} {bc : Int32} {bh bb bf bl : Nat → Int32} {sd sc sbc slc sfc sbr sle : Int32} {m : Nat → Int32}
    (R : zRel T hc hp hw hs hb hd ht rc rn ri rb rp rt rf rl bc bh bb bf bl sd sc sbc slc sfc sbr sle m) (th a0 a1 a2 : Int32) :
    (∃ c th', ((c = -2 ∧ th' = 1) ∨ (c = -1 ∧ th' = 2)) ∧ f_X8_exchange hc hp hs ht a0 a1 a2 = some (c, hs, ht) ∧ f_X10_swapIt m th a0 a1 a2 = some (-1, m, th')) ∨
    (∃ j hs' ht' m', j < 1000000 ∧ f_X8_exchange hc hp hs ht a0 a1 a2 = some (nI j, hs', ht') ∧ f_X10_swapIt m th a0 a1 a2 = some (nI j, m', th) ∧ zRel T hc hp hw hs' hb hd ht' rc rn ri rb rp rt rf rl bc bh bb bf bl sd sc sbc slc sfc sbr sle m') := by
  obtain ⟨n, P, W, L, B, D, q, b, d, H, RR, RB, RS⟩ := R
  have H0 := H
  obtain ⟨h1, h2, h3, h4, h5, h6, h7, h8, h9, h10⟩ := H
  subst h2
  have fin : ∀ {p1 p2 r : Nat} {hs' ht' m' : Nat → Int32}, r < 3 → p1 < 6 → p2 < 6 → (∀ k, k < n → hs' k = zS (zSw (r * 6 + p1) (r * 6 + p2) (L k))) → (∀ s, s < 18 → ht' s = ht (zSw (r * 6 + p1) (r * 6 + p2) s)) → (∀ x, (∀ k, k < n → x ≠ 8 + 6 * k + 3) → m' x = m x) → (∀ k, k < n → m' (8 + 6 * k + 3) = zP (zSw (r * 6 + p1) (r * 6 + p2) (L k))) →
      ∃ j, j < 1000000 ∧ (Option.bind (f_X7_codeOf (nI n) hp ht' (nI r)) fun u15 => Option.bind (f_X7_leastSwaps u15) fun u17 => some (u17, hs', ht')) = some (nI j, hs', ht') ∧ (Option.bind (f_X10_swaps m' (nI r)) fun u => some (u, m', th)) = some (nI j, m', th) ∧ zRel T (nI n) hp hw hs' hb hd ht' rc rn ri rb rp rt rf rl bc bh bb bf bl sd sc sbc slc sfc sbr sle m' := by
    intro p1 p2 r hs' ht' m' hr q1 q2 es et em em3
    have H' := zRH_swap H0 hr q1 q2 es et em em3
    obtain ⟨e1, e2, _, e4, e5⟩ := zRH_code H' hr
    refine ⟨phi (zCode n P (fun k => zSw (r * 6 + p1) (r * 6 + p2) (L k)) r), by omega, by rw [e1, z_bind, e2, z_bind], by rw [e4, z_bind], n, P, W, _, B, D, q, b, d, H', ?_, ?_, ?_⟩
    · exact zRR_kept RR (fun z hz => em z (fun k hk => by omega))
    · exact zRB_kept RB (fun z hz => em z (fun k hk => by omega))
    · exact zRS_kept RS (fun z hz => em z (fun k hk => by omega))
  unfold f_X8_exchange f_X10_swapIt
  rcases z_isRack a0 with ⟨r, hr, rfl, e9, e10⟩ | ⟨e9, e10⟩
  · rw [e9, e10, z_bind, z_bind, if_neg z_n10, if_neg z_n10]
    rcases z_isPlace a1 with ⟨p1, q1, rfl, e9, e10⟩ | ⟨e9, e10⟩
    · rw [e9, e10, z_bind, z_bind, if_neg z_n10, if_neg z_n10]
      rcases z_isPlace a2 with ⟨p2, q2, rfl, e9, e10⟩ | ⟨e9, e10⟩
      · rw [e9, e10, z_bind, z_bind, if_neg z_n10, if_neg z_n10]
        by_cases same : p1 = p2
        · rw [if_pos (show nI p1 = nI p2 by rw [same]), if_pos (show nI p1 = nI p2 by rw [same])]
          exact Or.inl ⟨-1, 2, Or.inr ⟨rfl, rfl⟩, rfl, rfl⟩
        · have ne : ¬ nI p1 = nI p2 := by rw [z_eq (by omega) (by omega)]; exact same
          have hR : ∀ k, k < n → m (8 + 6 * k + 2) = zR (L k) ∧ m (8 + 6 * k + 3) = zP (L k) := fun k hk => (h6 k hk).2.2
          have t1 := h9 (r * 6 + p1) (by omega)
          have t2 := h9 (r * 6 + p2) (by omega)
          rw [if_neg ne, if_neg ne, x2_contentOf ht hr q1, z_bind, x2_contentOf ht hr q2, z_bind, x10_standing h1 h3 hR hr q1, z_bind, x10_standing h1 h3 hR hr q2, z_bind]
          by_cases c1 : zAt n L (r * 6 + p1) < n
          · have s1 := zAt_slot c1
            have o1 := zAt_only h10 c1 (by omega)
            have v1 : zO n (zAt n L (r * 6 + p1)) = nI (zAt n L (r * 6 + p1)) := by unfold zO; rw [if_pos c1]
            have z1 : ¬ nI (zAt n L (r * 6 + p1)) = (-1 : Int32) := by rw [z_m1 (by omega)]; exact id
            generalize zAt n L (r * 6 + p1) = x1 at *
            rw [v1] at t1
            by_cases c2 : zAt n L (r * 6 + p2) < n
            · have s2 := zAt_slot c2
              have o2 := zAt_only h10 c2 (by omega)
              have v2 : zO n (zAt n L (r * 6 + p2)) = nI (zAt n L (r * 6 + p2)) := by unfold zO; rw [if_pos c2]
              have z2 : ¬ nI (zAt n L (r * 6 + p2)) = (-1 : Int32) := by rw [z_m1 (by omega)]; exact id
              generalize zAt n L (r * 6 + p2) = x2 at *
              rw [v2] at t2
              have x12 : x1 ≠ x2 := by rintro rfl; omega
              rw [t1, t2, v1, v2, if_neg z1, x2_setContent hs ht h1 hr q1 c2, z_bind]
              dsimp only
              rw [x2_setContent _ _ h1 hr q2 c1, z_bind, x10_hammerOf, z_bind, z_addl, if_pos (show jin (nI (8 + 6 * x1 + 3)) 2048 = true by rw [z_jin (by omega)]; simp; omega), z_cl (show 8 + 6 * x1 + 3 < 2147483648 by omega), if_neg z2, x10_hammerOf, z_bind, z_addl, if_pos (show jin (nI (8 + 6 * x2 + 3)) 2048 = true by rw [z_jin (by omega)]; simp; omega), z_cl (show 8 + 6 * x2 + 3 < 2147483648 by omega)]
              obtain ⟨j, j1, j2, j3, j4⟩ := fin (hs' := upd (upd hs x2 (nI (r * 6 + p1))) x1 (nI (r * 6 + p2))) (ht' := upd (upd ht (r * 6 + p1) (nI x2)) (r * 6 + p2) (nI x1)) (m' := upd (upd m (8 + 6 * x1 + 3) (nI p2)) (8 + 6 * x2 + 3) (nI p1)) hr q1 q2
                (fun k hk => by
                  by_cases c : k = x1
                  · rw [c, z_upds, s1, zSw_a, zS_lt (by omega)]
                  · rw [z_updn _ c]
                    by_cases d : k = x2
                    · rw [d, z_upds, s2, zSw_b, zS_lt (by omega)]
                    · rw [z_updn _ d, (h5 k hk).2.2, zSw_n (o1 k hk c) (o2 k hk d)])
                (fun s _ => zSw_upd t2.symm t1.symm s)
                (fun x hx => by rw [z_updn _ (hx x2 c2), z_updn _ (hx x1 c1)])
                (fun k hk => by
                  by_cases d : k = x2
                  · rw [d, z_upds, s2, zSw_b, zP_rp hr q1]
                  · rw [z_updn _ (by omega)]
                    by_cases c : k = x1
                    · rw [c, z_upds, s1, zSw_a, zP_rp hr q2]
                    · rw [z_updn _ (by omega), (hR k hk).2, zSw_n (o1 k hk c) (o2 k hk d)])
              exact Or.inr ⟨j, _, _, _, j1, j2, j3, j4⟩
            · have o2 := zAt_none c2
              have v2 : zO n (zAt n L (r * 6 + p2)) = -1 := by rw [zO_m1 h1]; omega
              rw [v2] at t2
              rw [t1, t2, v1, v2, if_neg z1, x2_setContentN hs ht hr q1, z_bind]
              dsimp only
              rw [x2_setContent _ _ h1 hr q2 c1, z_bind, x10_hammerOf, z_bind, z_addl, if_pos (show jin (nI (8 + 6 * x1 + 3)) 2048 = true by rw [z_jin (by omega)]; simp; omega), z_cl (show 8 + 6 * x1 + 3 < 2147483648 by omega), if_pos (show (-1 : Int32) = -1 from rfl)]
              obtain ⟨j, j1, j2, j3, j4⟩ := fin (hs' := upd hs x1 (nI (r * 6 + p2))) (ht' := upd (upd ht (r * 6 + p1) (-1)) (r * 6 + p2) (nI x1)) (m' := upd m (8 + 6 * x1 + 3) (nI p2)) hr q1 q2
                (fun k hk => by
                  by_cases c : k = x1
                  · rw [c, z_upds, s1, zSw_a, zS_lt (by omega)]
                  · rw [z_updn _ c, (h5 k hk).2.2, zSw_n (o1 k hk c) (o2 k hk)])
                (fun s _ => zSw_upd t2.symm t1.symm s)
                (fun x hx => by rw [z_updn _ (hx x1 c1)])
                (fun k hk => by
                  by_cases c : k = x1
                  · rw [c, z_upds, s1, zSw_a, zP_rp hr q2]
                  · rw [z_updn _ (by omega), (hR k hk).2, zSw_n (o1 k hk c) (o2 k hk)])
              exact Or.inr ⟨j, _, _, _, j1, j2, j3, j4⟩
          · have o1 := zAt_none c1
            have v1 : zO n (zAt n L (r * 6 + p1)) = -1 := by rw [zO_m1 h1]; omega
            rw [v1] at t1
            by_cases c2 : zAt n L (r * 6 + p2) < n
            · have s2 := zAt_slot c2
              have o2 := zAt_only h10 c2 (by omega)
              have v2 : zO n (zAt n L (r * 6 + p2)) = nI (zAt n L (r * 6 + p2)) := by unfold zO; rw [if_pos c2]
              have z2 : ¬ nI (zAt n L (r * 6 + p2)) = (-1 : Int32) := by rw [z_m1 (by omega)]; exact id
              generalize zAt n L (r * 6 + p2) = x2 at *
              rw [v2] at t2
              rw [t1, t2, v1, v2, if_pos rfl, if_neg z2, x2_setContent hs ht h1 hr q1 c2, z_bind]
              dsimp only
              rw [x2_setContentN _ _ hr q2, z_bind, x10_hammerOf, z_bind, z_addl, if_pos (show jin (nI (8 + 6 * x2 + 3)) 2048 = true by rw [z_jin (by omega)]; simp; omega), z_cl (show 8 + 6 * x2 + 3 < 2147483648 by omega)]
              obtain ⟨j, j1, j2, j3, j4⟩ := fin (hs' := upd hs x2 (nI (r * 6 + p1))) (ht' := upd (upd ht (r * 6 + p1) (nI x2)) (r * 6 + p2) (-1)) (m' := upd m (8 + 6 * x2 + 3) (nI p1)) hr q1 q2
                (fun k hk => by
                  by_cases d : k = x2
                  · rw [d, z_upds, s2, zSw_b, zS_lt (by omega)]
                  · rw [z_updn _ d, (h5 k hk).2.2, zSw_n (o1 k hk) (o2 k hk d)])
                (fun s _ => zSw_upd t2.symm t1.symm s)
                (fun x hx => by rw [z_updn _ (hx x2 c2)])
                (fun k hk => by
                  by_cases d : k = x2
                  · rw [d, z_upds, s2, zSw_b, zP_rp hr q1]
                  · rw [z_updn _ (by omega), (hR k hk).2, zSw_n (o1 k hk) (o2 k hk d)])
              exact Or.inr ⟨j, _, _, _, j1, j2, j3, j4⟩
            · have o2 := zAt_none c2
              have v2 : zO n (zAt n L (r * 6 + p2)) = -1 := by rw [zO_m1 h1]; omega
              rw [v2] at t2
              rw [t1, t2, v1, v2, if_pos rfl, if_pos rfl, x2_setContentN hs ht hr q1, z_bind]
              dsimp only
              rw [x2_setContentN _ _ hr q2, z_bind]
              obtain ⟨j, j1, j2, j3, j4⟩ := fin (hs' := hs) (ht' := upd (upd ht (r * 6 + p1) (-1)) (r * 6 + p2) (-1)) (m' := m) hr q1 q2
                (fun k hk => by rw [(h5 k hk).2.2, zSw_n (o1 k hk) (o2 k hk)])
                (fun s _ => zSw_upd t2.symm t1.symm s)
                (fun x hx => rfl)
                (fun k hk => by rw [(hR k hk).2, zSw_n (o1 k hk) (o2 k hk)])
              exact Or.inr ⟨j, _, _, _, j1, j2, j3, j4⟩
      · rw [e9, e10, z_bind, z_bind, if_pos rfl, if_pos rfl]
        exact Or.inl ⟨-2, 1, Or.inl ⟨rfl, rfl⟩, rfl, rfl⟩
    · rw [e9, e10, z_bind, z_bind, if_pos rfl, if_pos rfl]
      exact Or.inl ⟨-2, 1, Or.inl ⟨rfl, rfl⟩, rfl, rfl⟩
  · rw [e9, e10, z_bind, z_bind, if_pos rfl, if_pos rfl]
    exact Or.inl ⟨-2, 1, Or.inl ⟨rfl, rfl⟩, rfl, rfl⟩

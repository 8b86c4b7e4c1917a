/-! PURE: what is done to hammers, to both sides -/
theorem zT_of {n : Nat} {L : Nat → Nat} {ht : Nat → Int32} (inj : ∀ i j, i < n → j < n → L i = L j → L i < 18 → i = j) (h1 : ∀ k, k < n → L k < 18 → ht (L k) = nI k) (h2 : ∀ s, s < 18 → (∀ k, k < n → L k ≠ s) → ht s = -1) : ∀ s, s < 18 → ht s = zO n (zAt n L s) := by
  intro s hs
  unfold zO
  by_cases c : zAt n L s < n
  · have e : L (zAt n L s) = s := by have := pzf_yes c; simpa using this
    rw [if_pos c]
    have := h1 _ c (by omega)
    rw [e] at this
    exact this
  · rw [if_neg c]
    refine h2 s hs (fun k hk e => c (pzf_lt.mpr ⟨k, hk, by simp [e]⟩))
theorem zT_at {n : Nat} {L : Nat → Nat} {ht : Nat → Int32} (inj : ∀ i j, i < n → j < n → L i = L j → L i < 18 → i = j) (h : ∀ s, s < 18 → ht s = zO n (zAt n L s)) {k : Nat} (hk : k < n) (hl : L k < 18) : ht (L k) = nI k := by
  rw [h _ hl]
  have c : zAt n L (L k) < n := pzf_lt.mpr ⟨k, hk, by simp⟩
  have e : L (zAt n L (L k)) = L k := by have := pzf_yes c; simpa using this
  have : zAt n L (L k) = k := inj _ _ c hk e (by omega)
  unfold zO
  rw [if_pos c, this]
theorem zT_no {n : Nat} {L : Nat → Nat} {ht : Nat → Int32} (h : ∀ s, s < 18 → ht s = zO n (zAt n L s)) {s : Nat} (hs : s < 18) (hn : ∀ k, k < n → L k ≠ s) : ht s = -1 := by
  rw [h s hs]
  unfold zO
  rw [if_neg (fun c => hn _ c (by have := pzf_yes c; simpa using this))]
theorem zFree_no {n r : Nat} {L : Nat → Nat} (h : zFree n L r < 6) : ∀ k, k < n → L k ≠ r * 6 + zFree n L r := by
  have this : n ≤ zAt n L (r * 6 + zFree n L r) := of_decide_eq_true (pzf_yes h)
  intro k hk e
  have q : zAt n L (r * 6 + zFree n L r) < n := pzf_lt.mpr ⟨k, hk, by simp [e]⟩
  omega
theorem va_ups {α : Type} (f : Nat → α) (k : Nat) (v : α) : va_up f k v k = v := by unfold va_up; rw [if_pos rfl]
theorem va_upn {α : Type} {f : Nat → α} {k j : Nat} (v : α) (h : j ≠ k) : va_up f k v j = f j := by unfold va_up; rw [if_neg h]
theorem zS_lt {l : Nat} (h : l < 18) : zS l = nI l := by unfold zS; rw [if_pos h]
theorem zS_18 : zS 18 = -1 := by unfold zS; rw [if_neg (by omega)]
theorem zR_18 : zR 18 = -1 := by unfold zR; rw [if_neg (by omega)]
theorem zP_18 : zP 18 = -1 := by unfold zP; rw [if_neg (by omega)]
theorem zR_rp {r p : Nat} (hr : r < 3) (hp : p < 6) : zR (r * 6 + p) = nI r := by
  rw [zR_eq hr]; omega
theorem zP_rp {r p : Nat} (hr : r < 3) (hp : p < 6) : zP (r * 6 + p) = nI p := by
  rw [zP_eq hp]; omega
theorem zRH_add {n r p x : Nat} {P W L B D : Nat → Nat} {T : Nat} {hc : Int32} {hp hw hs hb hd ht m : Nat → Int32} (H : zRH n P W L B D T hc hp hw hs hb hd ht m) (hn : n < 12) (hr : r < 3) (hp6 : p < 6) (free : ∀ k, k < n → L k ≠ r * 6 + p) (hx : x ≤ 60) : zRH (n + 1) (va_up P n x) (va_up W n 0) (va_up L n (r * 6 + p)) B D T (nI (n + 1)) (upd hp n (nI x)) (upd hw n (nI 0)) (upd (upd hs n (-1)) n (nI (r * 6 + p))) hb hd (upd ht (r * 6 + p) (nI n)) (upd (upd (upd (upd m (8 + 6 * n) (nI x)) (8 + 6 * n + 2) (nI r)) (8 + 6 * n + 3) (nI p)) 0 (nI (n + 1))) := by
  obtain ⟨h1, h2, h3, h4, h5, h6, h7, h8, h9, h10⟩ := H
  have inj : ∀ i j, i < n + 1 → j < n + 1 → va_up L n (r * 6 + p) i = va_up L n (r * 6 + p) j → va_up L n (r * 6 + p) i < 18 → i = j := by
    intro i j hi hj e hl
    by_cases ci : i = n
    · by_cases cj : j = n
      · omega
      · rw [ci, va_ups, va_upn _ cj] at e
        exact absurd e.symm (free j (by omega))
    · by_cases cj : j = n
      · rw [cj, va_ups, va_upn _ ci] at e
        exact absurd e (free i (by omega))
      · rw [va_upn _ ci, va_upn _ cj] at e
        rw [va_upn _ ci] at hl
        exact h10 i j (by omega) (by omega) e hl
  refine ⟨by omega, rfl, z_upds _ _ _, fun k hk => ?_, fun k hk => ?_, fun k hk => ?_, fun k hk hl => ?_, fun k hk hk2 => ?_, zT_of inj (fun k hk hl => ?_) (fun s hs' hno => ?_), inj⟩
  · by_cases c : k = n
    · subst c; rw [va_ups, va_ups, va_ups]; omega
    · rw [va_upn _ c, va_upn _ c, va_upn _ c]; exact h4 k (by omega)
  · by_cases c : k = n
    · subst c; rw [va_ups, va_ups, va_ups, z_upds, z_upds, z_upds, zS_lt (by omega)]; exact ⟨rfl, rfl, rfl⟩
    · rw [va_upn _ c, va_upn _ c, va_upn _ c, z_updn _ c, z_updn _ c, z_updn _ c, z_updn _ c]; exact h5 k (by omega)
  · by_cases c : k = n
    · subst c
      rw [va_ups, va_ups, va_ups, zR_rp hr hp6, zP_rp hr hp6]
      refine ⟨?_, ?_, ?_, ?_⟩
      · rw [z_updn _ (by omega), z_updn _ (by omega), z_updn _ (by omega), z_upds]
      · rw [z_updn _ (by omega), z_updn _ (by omega), z_updn _ (by omega), z_updn _ (by omega)]; exact h8 k (by omega) hn
      · rw [z_updn _ (by omega), z_updn _ (by omega), z_upds]
      · rw [z_updn _ (by omega), z_upds]
    · have := h6 k (by omega)
      rw [va_upn _ c, va_upn _ c, va_upn _ c]
      refine ⟨?_, ?_, ?_, ?_⟩
      · rw [z_updn _ (by omega), z_updn _ (by omega), z_updn _ (by omega), z_updn _ (by omega)]; exact this.1
      · rw [z_updn _ (by omega), z_updn _ (by omega), z_updn _ (by omega), z_updn _ (by omega)]; exact this.2.1
      · rw [z_updn _ (by omega), z_updn _ (by omega), z_updn _ (by omega), z_updn _ (by omega)]; exact this.2.2.1
      · rw [z_updn _ (by omega), z_updn _ (by omega), z_updn _ (by omega), z_updn _ (by omega)]; exact this.2.2.2
  · by_cases c : k = n
    · subst c; rw [va_ups] at hl; omega
    · rw [va_upn _ c] at hl
      have := h7 k (by omega) hl
      rw [z_updn _ (by omega), z_updn _ (by omega), z_updn _ (by omega), z_updn _ (by omega), z_updn _ (by omega), z_updn _ (by omega), z_updn _ (by omega), z_updn _ (by omega)]
      exact this
  · rw [z_updn _ (by omega), z_updn _ (by omega), z_updn _ (by omega), z_updn _ (by omega)]; exact h8 k (by omega) hk2
  · by_cases c : k = n
    · subst c; rw [va_ups, z_upds]
    · rw [va_upn _ c] at hl ⊢
      rw [z_updn _ (free k (by omega))]
      exact zT_at h10 h9 (by omega) hl
  · by_cases c : s = r * 6 + p
    · exact absurd (by rw [va_ups, c]) (hno n (by omega))
    · rw [z_updn _ c]
      exact zT_no h9 hs' (fun k hk e => hno k (by omega) (by rw [va_upn _ (by omega)]; exact e))
/-- a hammer gets another slot: one of the racks' that is free -/
theorem zRH_move {n r p k l : Nat} {P W L B D : Nat → Nat} {T : Nat} {hc : Int32} {hp hw hs hb hd ht m : Nat → Int32} (H : zRH n P W L B D T hc hp hw hs hb hd ht m) (hk : k < n) (hl : L k = l) (hl18 : l < 18) (hr : r < 3) (hp6 : p < 6) (free : ∀ i, i < n → L i ≠ r * 6 + p) : zRH n P W (va_up L k (r * 6 + p)) B D T hc hp hw (upd (upd hs k (-1)) k (nI (r * 6 + p))) hb hd (upd (upd ht l (-1)) (r * 6 + p) (nI k)) (upd (upd m (8 + 6 * k + 2) (nI r)) (8 + 6 * k + 3) (nI p)) := by
  obtain ⟨h1, h2, h3, h4, h5, h6, h7, h8, h9, h10⟩ := H
  have inj : ∀ i j, i < n → j < n → va_up L k (r * 6 + p) i = va_up L k (r * 6 + p) j → va_up L k (r * 6 + p) i < 18 → i = j := by
    intro i j hi hj e hl
    by_cases ci : i = k
    · by_cases cj : j = k
      · omega
      · rw [ci, va_ups, va_upn _ cj] at e
        exact absurd e.symm (free j (by omega))
    · by_cases cj : j = k
      · rw [cj, va_ups, va_upn _ ci] at e
        exact absurd e (free i (by omega))
      · rw [va_upn _ ci, va_upn _ cj] at e
        rw [va_upn _ ci] at hl
        exact h10 i j (by omega) (by omega) e hl
  refine ⟨h1, h2, by rw [z_updn _ (by omega), z_updn _ (by omega)]; exact h3, fun i hi => ?_, fun i hi => ?_, fun i hi => ?_, fun i hi hl => ?_, fun i hi hi2 => ?_, zT_of inj (fun i hi hl => ?_) (fun s hs' hno => ?_), inj⟩
  · by_cases c : i = k
    · subst c; rw [va_ups]; have := h4 i hi; omega
    · rw [va_upn _ c]; exact h4 i hi
  · by_cases c : i = k
    · subst c; rw [va_ups, z_upds, zS_lt (by omega)]; exact ⟨(h5 i hi).1, (h5 i hi).2.1, rfl⟩
    · rw [va_upn _ c, z_updn _ c, z_updn _ c]; exact h5 i hi
  · have := h6 i hi
    by_cases c : i = k
    · subst c
      rw [va_ups, zR_rp hr hp6, zP_rp hr hp6]
      refine ⟨?_, ?_, ?_, ?_⟩
      · rw [z_updn _ (by omega), z_updn _ (by omega)]; exact this.1
      · rw [z_updn _ (by omega), z_updn _ (by omega)]; exact this.2.1
      · rw [z_updn _ (by omega), z_upds]
      · rw [z_upds]
    · rw [va_upn _ c]
      rw [z_updn _ (by omega), z_updn _ (by omega), z_updn _ (by omega), z_updn _ (by omega), z_updn _ (by omega), z_updn _ (by omega), z_updn _ (by omega), z_updn _ (by omega)]
      exact this
  · by_cases c : i = k
    · subst c; rw [va_ups] at hl; omega
    · rw [va_upn _ c] at hl
      have := h7 i hi hl
      rw [z_updn _ (by omega), z_updn _ (by omega), z_updn _ (by omega), z_updn _ (by omega)]
      exact this
  · rw [z_updn _ (by omega), z_updn _ (by omega)]; exact h8 i hi hi2
  · by_cases c : i = k
    · subst c; rw [va_ups, z_upds]
    · rw [va_upn _ c] at hl ⊢
      rw [z_updn _ (free i hi), z_updn _ (fun e => c (h10 i k hi hk (by omega) hl))]
      exact zT_at h10 h9 hi hl
  · by_cases c : s = r * 6 + p
    · exact absurd (by rw [va_ups, c]) (hno k hk)
    · rw [z_updn _ c]
      by_cases d : s = l
      · rw [d, z_upds]
      · rw [z_updn _ d]
        exact zT_no h9 hs' (fun i hi e => hno i hi (by rw [va_upn _ (fun q => d (by rw [← e, q, hl]))]; exact e))
/-- a hammer comes back -/
theorem zRH_back {n r p k w : Nat} {P W L B D : Nat → Nat} {T : Nat} {hc : Int32} {hp hw hs hb hd ht m : Nat → Int32} (H : zRH n P W L B D T hc hp hw hs hb hd ht m) (hk : k < n) (hl : L k = 18) (hr : r < 3) (hp6 : p < 6) (free : ∀ i, i < n → L i ≠ r * 6 + p) (hw100 : w ≤ 100) : zRH n P (va_up W k w) (va_up L k (r * 6 + p)) B D T hc hp (upd hw k (nI w)) (upd hs k (nI (r * 6 + p))) hb hd (upd ht (r * 6 + p) (nI k)) (upd (upd (upd (upd (upd m (8 + 6 * k + 1) (nI w)) (8 + 6 * k + 2) (nI r)) (8 + 6 * k + 3) (nI p)) (8 + 6 * k + 4) (nI 0)) (8 + 6 * k + 5) (nI 0)) := by
  obtain ⟨h1, h2, h3, h4, h5, h6, h7, h8, h9, h10⟩ := H
  have inj : ∀ i j, i < n → j < n → va_up L k (r * 6 + p) i = va_up L k (r * 6 + p) j → va_up L k (r * 6 + p) i < 18 → i = j := by
    intro i j hi hj e hl
    by_cases ci : i = k
    · by_cases cj : j = k
      · omega
      · rw [ci, va_ups, va_upn _ cj] at e
        exact absurd e.symm (free j (by omega))
    · by_cases cj : j = k
      · rw [cj, va_ups, va_upn _ ci] at e
        exact absurd e (free i (by omega))
      · rw [va_upn _ ci, va_upn _ cj] at e
        rw [va_upn _ ci] at hl
        exact h10 i j (by omega) (by omega) e hl
  refine ⟨h1, h2, by rw [z_updn _ (by omega), z_updn _ (by omega), z_updn _ (by omega), z_updn _ (by omega), z_updn _ (by omega)]; exact h3, fun i hi => ?_, fun i hi => ?_, fun i hi => ?_, fun i hi hl => ?_, fun i hi hi2 => ?_, zT_of inj (fun i hi hl => ?_) (fun s hs' hno => ?_), inj⟩
  · by_cases c : i = k
    · subst c; rw [va_ups, va_ups]; have := h4 i hi; omega
    · rw [va_upn _ c, va_upn _ c]; exact h4 i hi
  · by_cases c : i = k
    · subst c; rw [va_ups, va_ups, z_upds, z_upds, zS_lt (by omega)]; exact ⟨(h5 i hi).1, rfl, rfl⟩
    · rw [va_upn _ c, va_upn _ c, z_updn _ c, z_updn _ c]; exact h5 i hi
  · have := h6 i hi
    by_cases c : i = k
    · subst c
      rw [va_ups, va_ups, zR_rp hr hp6, zP_rp hr hp6]
      refine ⟨?_, ?_, ?_, ?_⟩
      · rw [z_updn _ (by omega), z_updn _ (by omega), z_updn _ (by omega), z_updn _ (by omega), z_updn _ (by omega)]; exact this.1
      · rw [z_updn _ (by omega), z_updn _ (by omega), z_updn _ (by omega), z_updn _ (by omega), z_upds]
      · rw [z_updn _ (by omega), z_updn _ (by omega), z_updn _ (by omega), z_upds]
      · rw [z_updn _ (by omega), z_updn _ (by omega), z_upds]
    · rw [va_upn _ c, va_upn _ c]
      refine ⟨?_, ?_, ?_, ?_⟩
      · rw [z_updn _ (by omega), z_updn _ (by omega), z_updn _ (by omega), z_updn _ (by omega), z_updn _ (by omega)]; exact this.1
      · rw [z_updn _ (by omega), z_updn _ (by omega), z_updn _ (by omega), z_updn _ (by omega), z_updn _ (by omega)]; exact this.2.1
      · rw [z_updn _ (by omega), z_updn _ (by omega), z_updn _ (by omega), z_updn _ (by omega), z_updn _ (by omega)]; exact this.2.2.1
      · rw [z_updn _ (by omega), z_updn _ (by omega), z_updn _ (by omega), z_updn _ (by omega), z_updn _ (by omega)]; exact this.2.2.2
  · by_cases c : i = k
    · subst c; rw [va_ups] at hl; omega
    · rw [va_upn _ c] at hl
      have := h7 i hi hl
      refine ⟨this.1, this.2.1, this.2.2.1, this.2.2.2.1, ?_, ?_⟩
      · rw [z_updn _ (by omega), z_updn _ (by omega), z_updn _ (by omega), z_updn _ (by omega), z_updn _ (by omega)]; exact this.2.2.2.2.1
      · rw [z_updn _ (by omega), z_updn _ (by omega), z_updn _ (by omega), z_updn _ (by omega), z_updn _ (by omega)]; exact this.2.2.2.2.2
  · rw [z_updn _ (by omega), z_updn _ (by omega), z_updn _ (by omega), z_updn _ (by omega), z_updn _ (by omega)]; exact h8 i hi hi2
  · by_cases c : i = k
    · subst c; rw [va_ups, z_upds]
    · rw [va_upn _ c] at hl ⊢
      rw [z_updn _ (free i hi)]
      exact zT_at h10 h9 hi hl
  · by_cases c : s = r * 6 + p
    · exact absurd (by rw [va_ups, c]) (hno k hk)
    · rw [z_updn _ c]
      exact zT_no h9 hs' (fun i hi e => hno i hi (by rw [va_upn _ (fun q => by rw [q] at e; omega)]; exact e))
/-- a hammer goes to a borrower -/
theorem zRH_lend {n k l b d : Nat} {P W L B D : Nat → Nat} {T : Nat} {hc : Int32} {hp hw hs hb hd ht m : Nat → Int32} (H : zRH n P W L B D T hc hp hw hs hb hd ht m) (hk : k < n) (hl : L k = l) (hl18 : l < 18) (hb9 : b ≤ 9) (hdT : d ≤ T + 40) : zRH n P W (va_up L k 18) (va_up B k b) (va_up D k d) T hc hp hw (upd hs k (-1)) (upd hb k (nI b)) (upd hd k (nI d)) (upd ht l (-1)) (upd (upd (upd (upd m (8 + 6 * k + 2) (-1)) (8 + 6 * k + 3) (-1)) (8 + 6 * k + 4) (nI b)) (8 + 6 * k + 5) (nI d)) := by
  obtain ⟨h1, h2, h3, h4, h5, h6, h7, h8, h9, h10⟩ := H
  have inj : ∀ i j, i < n → j < n → va_up L k 18 i = va_up L k 18 j → va_up L k 18 i < 18 → i = j := by
    intro i j hi hj e hl
    by_cases ci : i = k
    · rw [ci, va_ups] at hl; omega
    · by_cases cj : j = k
      · rw [cj, va_ups, va_upn _ ci] at e
        rw [va_upn _ ci] at hl; omega
      · rw [va_upn _ ci, va_upn _ cj] at e
        rw [va_upn _ ci] at hl
        exact h10 i j (by omega) (by omega) e hl
  refine ⟨h1, h2, by rw [z_updn _ (by omega), z_updn _ (by omega), z_updn _ (by omega), z_updn _ (by omega)]; exact h3, fun i hi => ?_, fun i hi => ?_, fun i hi => ?_, fun i hi hl => ?_, fun i hi hi2 => ?_, zT_of inj (fun i hi hl => ?_) (fun s hs' hno => ?_), inj⟩
  · by_cases c : i = k
    · subst c; rw [va_ups]; have := h4 i hi; omega
    · rw [va_upn _ c]; exact h4 i hi
  · by_cases c : i = k
    · subst c; rw [va_ups, z_upds, zS_18]; exact ⟨(h5 i hi).1, (h5 i hi).2.1, rfl⟩
    · rw [va_upn _ c, z_updn _ c]; exact h5 i hi
  · have := h6 i hi
    by_cases c : i = k
    · subst c
      rw [va_ups, zR_18, zP_18]
      refine ⟨?_, ?_, ?_, ?_⟩
      · rw [z_updn _ (by omega), z_updn _ (by omega), z_updn _ (by omega), z_updn _ (by omega)]; exact this.1
      · rw [z_updn _ (by omega), z_updn _ (by omega), z_updn _ (by omega), z_updn _ (by omega)]; exact this.2.1
      · rw [z_updn _ (by omega), z_updn _ (by omega), z_updn _ (by omega), z_upds]
      · rw [z_updn _ (by omega), z_updn _ (by omega), z_upds]
    · rw [va_upn _ c]
      refine ⟨?_, ?_, ?_, ?_⟩
      · rw [z_updn _ (by omega), z_updn _ (by omega), z_updn _ (by omega), z_updn _ (by omega)]; exact this.1
      · rw [z_updn _ (by omega), z_updn _ (by omega), z_updn _ (by omega), z_updn _ (by omega)]; exact this.2.1
      · rw [z_updn _ (by omega), z_updn _ (by omega), z_updn _ (by omega), z_updn _ (by omega)]; exact this.2.2.1
      · rw [z_updn _ (by omega), z_updn _ (by omega), z_updn _ (by omega), z_updn _ (by omega)]; exact this.2.2.2
  · by_cases c : i = k
    · subst c
      rw [va_ups, va_ups, z_upds, z_upds]
      refine ⟨hb9, hdT, rfl, rfl, ?_, ?_⟩
      · rw [z_updn _ (by omega), z_upds]
      · rw [z_upds]
    · rw [va_upn _ c] at hl
      have := h7 i hi hl
      rw [va_upn _ c, va_upn _ c, z_updn _ c, z_updn _ c]
      refine ⟨this.1, this.2.1, this.2.2.1, this.2.2.2.1, ?_, ?_⟩
      · rw [z_updn _ (by omega), z_updn _ (by omega), z_updn _ (by omega), z_updn _ (by omega)]; exact this.2.2.2.2.1
      · rw [z_updn _ (by omega), z_updn _ (by omega), z_updn _ (by omega), z_updn _ (by omega)]; exact this.2.2.2.2.2
  · rw [z_updn _ (by omega), z_updn _ (by omega), z_updn _ (by omega), z_updn _ (by omega)]; exact h8 i hi hi2
  · by_cases c : i = k
    · subst c; rw [va_ups] at hl; omega
    · rw [va_upn _ c] at hl ⊢
      rw [z_updn _ (fun e => c (h10 i k hi hk (by omega) hl))]
      exact zT_at h10 h9 hi hl
  · by_cases d : s = l
    · rw [d, z_upds]
    · rw [z_updn _ d]
      exact zT_no h9 hs' (fun i hi e => hno i hi (by rw [va_upn _ (fun q => d (by rw [← e, q, hl]))]; exact e))
/-- a hammer's wear is set -/
theorem zRH_wear {n k w : Nat} {P W L B D : Nat → Nat} {T : Nat} {hc : Int32} {hp hw hs hb hd ht m : Nat → Int32} (H : zRH n P W L B D T hc hp hw hs hb hd ht m) (hk : k < n) (hw100 : w ≤ 100) : zRH n P (va_up W k w) L B D T hc hp (upd hw k (nI w)) hs hb hd ht (upd m (8 + 6 * k + 1) (nI w)) := by
  obtain ⟨h1, h2, h3, h4, h5, h6, h7, h8, h9, h10⟩ := H
  refine ⟨h1, h2, by rw [z_updn _ (by omega)]; exact h3, fun i hi => ?_, fun i hi => ?_, fun i hi => ?_, fun i hi hl => ?_, fun i hi hi2 => ?_, h9, h10⟩
  · by_cases c : i = k
    · subst c; rw [va_ups]; have := h4 i hi; omega
    · rw [va_upn _ c]; exact h4 i hi
  · by_cases c : i = k
    · subst c; rw [va_ups, z_upds]; exact ⟨(h5 i hi).1, rfl, (h5 i hi).2.2⟩
    · rw [va_upn _ c, z_updn _ c]; exact h5 i hi
  · have := h6 i hi
    by_cases c : i = k
    · subst c
      rw [va_ups]
      refine ⟨?_, ?_, ?_, ?_⟩
      · rw [z_updn _ (by omega)]; exact this.1
      · rw [z_upds]
      · rw [z_updn _ (by omega)]; exact this.2.2.1
      · rw [z_updn _ (by omega)]; exact this.2.2.2
    · rw [va_upn _ c]
      rw [z_updn _ (by omega), z_updn _ (by omega), z_updn _ (by omega), z_updn _ (by omega)]; exact this
  · have := h7 i hi hl
    rw [z_updn _ (by omega), z_updn _ (by omega)]; exact this
  · rw [z_updn _ (by omega)]; exact h8 i hi hi2

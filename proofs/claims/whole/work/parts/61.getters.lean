/-! PURE: what is asked of hammers, as the law asks it -/
theorem z_inr {α β γ : Type} (f : α → Option γ) (g : β → Option γ) (b : β) : Option.bind (some (Sum.inr b)) (fun u => Sum.elim f g u) = g b := rfl
theorem z_inl {α β γ : Type} (f : α → Option γ) (g : β → Option γ) (b : α) : Option.bind (some (Sum.inl b)) (fun u => Sum.elim f g u) = f b := rfl
/-- the law's call of the class and the call of the model: the same outcome -/
def zSame (o : Option (Int32 × (Nat → Int64))) (q : Option (Int32 × Int32)) : Prop := ∃ v c out', o = some (c, out') ∧ q = some (v, c) ∧ (c = 0 → out' 0 = v.toInt64)
theorem zSame_err {out : Nat → Int64} {c : Int32} (v : Int32) (h : ¬ c = 0) : zSame (some (c, out)) (some (v, c)) := ⟨v, c, out, rfl, rfl, fun e => absurd e h⟩
theorem zSame_val (out : Nat → Int64) (v : Int32) : zSame (some (0, vp_updL out (0 : Int32).toNatClampNeg v.toInt64)) (some (v, 0)) := ⟨v, 0, _, rfl, rfl, fun _ => rfl⟩
section ZG
variable {n T : Nat} {P W L B D : Nat → Nat} {hc : Int32} {hp hw hs hb hd ht m : Nat → Int32}
theorem rq_hammer (H : zRH n P W L B D T hc hp hw hs hb hd ht m) (a : Int32) : (∃ k, k < n ∧ a = nI k ∧ f_X9_requireHammer hc a = some (.inr ()) ∧ f_X10_isHammer m a = some 1) ∨ (f_X9_requireHammer hc a = some (.inl "java/lang/IndexOutOfBoundsException") ∧ f_X10_isHammer m a = some 0) := by
  obtain ⟨h1, h2, h3, h4, h5, h6, h7, h8, h9, h10⟩ := H
  subst h2
  unfold f_X9_requireHammer
  rcases z_arg a (n := n) (by omega) with ⟨k, hk, rfl⟩ | hout
  · rw [x2_hasT h1 hk, z_bind, if_neg z_n10]
    exact Or.inl ⟨k, hk, rfl, rfl, x10_isHammerT h1 h3 hk⟩
  · rw [x2_hasF hout, z_bind, if_pos rfl]
    exact Or.inr ⟨rfl, x10_isHammerF h1 h3 hout⟩
theorem rq_rack (a : Int32) : (∃ r, r < 3 ∧ a = nI r ∧ f_X9_requireRack a = some (.inr ()) ∧ f_X10_isRack a = some 1) ∨ (f_X9_requireRack a = some (.inl "java/lang/IndexOutOfBoundsException") ∧ f_X10_isRack a = some 0) := by
  unfold f_X9_requireRack
  rcases z_isRack a with ⟨r, hr, rfl, e9, e10⟩ | ⟨e9, e10⟩
  · rw [e9, z_bind, if_neg z_n10]
    exact Or.inl ⟨r, hr, rfl, rfl, e10⟩
  · rw [e9, z_bind, if_pos rfl]
    exact Or.inr ⟨rfl, e10⟩
theorem x10_ofHammerT {k f : Nat} (th : Int32) (e2 : f_X10_isHammer m (nI k) = some 1) (hk : k < 12) (hf : f < 6) : f_X10_ofHammer m th (nI k) (nI f) = some (m (8 + 6 * k + f), 0) := by
  unfold f_X10_ofHammer
  rw [e2, z_bind, if_neg z_n10, x10_hammerOf, z_bind, nI_add, if_pos (by rw [z_jin (by omega)]; simp; omega), z_cl (by omega)]
theorem x10_ofHammerF {a b : Int32} (th : Int32) (e2 : f_X10_isHammer m a = some 0) : f_X10_ofHammer m th a b = some (-1, 1) := by
  unfold f_X10_ofHammer
  rw [e2, z_bind, if_pos rfl]
  rfl
theorem x10_ofIfF {a b c : Int32} (th : Int32) (e2 : f_X10_isHammer m a = some 0) : f_X10_ofHammerIf m th a b c = some (-1, 1) := by
  unfold f_X10_ofHammerIf
  rw [x10_ofHammerF th e2, z_bind, if_neg (by decide)]
theorem x10_ofIf1 {k f l : Nat} (th : Int32) (e2 : f_X10_isHammer m (nI k) = some 1) (hk : k < 12) (hf : f < 6) (hl : m (8 + 6 * k + 2) = zR l) : f_X10_ofHammerIf m th (nI k) 1 (nI f) = if 18 ≤ l then some (m (8 + 6 * k + f), 0) else some (-1, 2) := by
  unfold f_X10_ofHammerIf
  rw [show f_X10_ofHammer m th (nI k) 2 = _ from x10_ofHammerT (f := 2) th e2 hk (by omega), z_bind]
  dsimp only
  rw [if_pos (show (0 : Int32) ≤ 0 by decide), hl]
  by_cases c : 18 ≤ l
  · rw [if_pos (show zR l = -1 by rw [zR_m1]; exact c), if_pos (show (1 : Int32) = 1 from rfl), x10_hammerOf, z_bind, nI_add, if_pos (by rw [z_jin (by omega)]; simp; omega), z_cl (by omega), if_pos c]
  · rw [if_neg (show ¬ zR l = -1 by rw [zR_m1]; exact c), if_neg (show ¬ (0 : Int32) = 1 by decide), if_neg c]
    rfl
theorem x10_ofIf0 {k f l : Nat} (th : Int32) (e2 : f_X10_isHammer m (nI k) = some 1) (hk : k < 12) (hf : f < 6) (hl : m (8 + 6 * k + 2) = zR l) : f_X10_ofHammerIf m th (nI k) 0 (nI f) = if 18 ≤ l then some (-1, 2) else some (m (8 + 6 * k + f), 0) := by
  unfold f_X10_ofHammerIf
  rw [show f_X10_ofHammer m th (nI k) 2 = _ from x10_ofHammerT (f := 2) th e2 hk (by omega), z_bind]
  dsimp only
  rw [if_pos (show (0 : Int32) ≤ 0 by decide), hl]
  by_cases c : 18 ≤ l
  · rw [if_pos (show zR l = -1 by rw [zR_m1]; exact c), if_neg z_n10, if_pos c]
    rfl
  · rw [if_neg (show ¬ zR l = -1 by rw [zR_m1]; exact c), if_pos (show (0 : Int32) = 0 from rfl), x10_hammerOf, z_bind, nI_add, if_pos (by rw [z_jin (by omega)]; simp; omega), z_cl (by omega), if_neg c]
theorem rq_lent {k : Nat} (hn : n ≤ 12) (hk : k < n) (hs' : hs k = zS (L k)) : f_X9_requireLent (nI n) hs (nI k) = if 18 ≤ L k then some (.inr ()) else some (.inl "java/util/NoSuchElementException") := by
  unfold f_X9_requireLent
  rw [x2_isAway hs hn hk hs', z_bind]
  by_cases c : 18 ≤ L k
  · rw [if_neg (show ¬ (if 18 ≤ L k then (1 : Int32) else 0) = 0 by rw [if_pos c]; decide), if_pos c]
  · rw [if_pos (show (if 18 ≤ L k then (1 : Int32) else 0) = 0 by rw [if_neg c]), if_neg c]
theorem rq_inRack {k : Nat} (hn : n ≤ 12) (hk : k < n) (hs' : hs k = zS (L k)) : f_X9_requireInRack (nI n) hs (nI k) = if 18 ≤ L k then some (.inl "java/util/NoSuchElementException") else some (.inr ()) := by
  unfold f_X9_requireInRack
  rw [x2_isAway hs hn hk hs', z_bind]
  by_cases c : 18 ≤ L k
  · rw [if_neg (show ¬ (if 18 ≤ L k then (1 : Int32) else 0) = 0 by rw [if_pos c]; decide), if_pos c]
  · rw [if_pos (show (if 18 ≤ L k then (1 : Int32) else 0) = 0 by rw [if_neg c]), if_neg c]
theorem get_pitch (H : zRH n P W L B D T hc hp hw hs hb hd ht m) (th a : Int32) (out : Nat → Int64) : zSame (f_L_pitch hc hp out a) (f_X10_pitch m th a) := by
  unfold f_L_pitch f_X9_pitch f_X10_pitch
  rcases rq_hammer H a with ⟨k, hk, rfl, e1, e2⟩ | ⟨e1, e2⟩
  · obtain ⟨h1, h2, h3, h4, h5, h6, h7, h8, h9, h10⟩ := H
    subst h2
    rw [e1, z_inr, x2_pitchOf hp h1 hk, z_bind, z_inr, if_pos (show jin 0 1 = true by decide), show f_X10_ofHammer m th (nI k) 0 = _ from x10_ofHammerT (f := 0) th e2 (by omega) (by omega), z_bind, (h5 k hk).1]
    dsimp only
    rw [show m (8 + 6 * k + 0) = nI (P k) from (h6 k hk).1]
    exact zSame_val out _
  · rw [e1, z_inl, z_inl, if_pos rfl, x10_ofHammerF th e2, z_bind]
    exact zSame_err (-1) z_n10
theorem get_wear (H : zRH n P W L B D T hc hp hw hs hb hd ht m) (th a : Int32) (out : Nat → Int64) : zSame (f_L_wear hc hw out a) (f_X10_wear m th a) := by
  unfold f_L_wear f_X9_wear f_X10_wear
  rcases rq_hammer H a with ⟨k, hk, rfl, e1, e2⟩ | ⟨e1, e2⟩
  · obtain ⟨h1, h2, h3, h4, h5, h6, h7, h8, h9, h10⟩ := H
    subst h2
    rw [e1, z_inr, x2_wearOf hw h1 hk, z_bind, z_inr, if_pos (show jin 0 1 = true by decide), show f_X10_ofHammer m th (nI k) 1 = _ from x10_ofHammerT (f := 1) th e2 (by omega) (by omega), z_bind, (h5 k hk).2.1]
    dsimp only
    rw [(h6 k hk).2.1]
    exact zSame_val out _
  · rw [e1, z_inl, z_inl, if_pos rfl, x10_ofHammerF th e2, z_bind]
    exact zSame_err (-1) z_n10
theorem get_isLent (H : zRH n P W L B D T hc hp hw hs hb hd ht m) (th a : Int32) (out : Nat → Int64) : zSame (f_L_isLent hc hs out a) (f_X10_isLent m th a) := by
  unfold f_L_isLent f_X9_isLent f_X10_isLent
  rcases rq_hammer H a with ⟨k, hk, rfl, e1, e2⟩ | ⟨e1, e2⟩
  · obtain ⟨h1, h2, h3, h4, h5, h6, h7, h8, h9, h10⟩ := H
    subst h2
    rw [e1, z_inr, x2_isAway hs h1 hk (h5 k hk).2.2, z_bind, show f_X10_ofHammer m th (nI k) 2 = _ from x10_ofHammerT (f := 2) th e2 (by omega) (by omega), z_bind]
    dsimp only
    rw [if_pos (show (0 : Int32) = 0 from rfl), (h6 k hk).2.2.1]
    by_cases c : 18 ≤ L k
    · rw [if_pos c, if_pos (Or.inr rfl), z_inr, if_neg z_n10, if_pos (show jin 0 1 = true by decide), if_pos (show zR (L k) = -1 by rw [zR_m1]; exact c)]
      exact zSame_val out 1
    · rw [if_neg c, if_pos (Or.inl rfl), z_inr, if_pos rfl, if_pos (show jin 0 1 = true by decide), if_neg (show ¬ zR (L k) = -1 by rw [zR_m1]; exact c)]
      exact zSame_val out 0
  · rw [e1, z_inl, z_inl, if_pos rfl, x10_ofHammerF th e2, z_bind]
    dsimp only
    rw [if_neg z_n10]
    exact zSame_err 0 z_n10
theorem get_borrower (H : zRH n P W L B D T hc hp hw hs hb hd ht m) (th a : Int32) (out : Nat → Int64) : zSame (f_L_borrower hc hs hb out a) (f_X10_borrower m th a) := by
  unfold f_L_borrower f_X9_borrower f_X10_borrower
  rcases rq_hammer H a with ⟨k, hk, rfl, e1, e2⟩ | ⟨e1, e2⟩
  · obtain ⟨h1, h2, h3, h4, h5, h6, h7, h8, h9, h10⟩ := H
    subst h2
    rw [e1, z_inr, rq_lent h1 hk (h5 k hk).2.2, show f_X10_ofHammerIf m th (nI k) 1 4 = _ from x10_ofIf1 (f := 4) th e2 (by omega) (by omega) (h6 k hk).2.2.1]
    by_cases c : 18 ≤ L k
    · have l18 : L k = 18 := by have := (h4 k hk).2.2; omega
      have d := h7 k hk l18
      rw [if_pos c, if_pos c, z_inr, x2_borrowerOf hb h1 hk, z_bind, z_inr, if_pos (show jin 0 1 = true by decide), z_bind, d.2.2.1, d.2.2.2.2.1]
      exact zSame_val out _
    · rw [if_neg c, if_neg c, z_inl, z_inl, if_neg (by decide), if_pos rfl, z_bind]
      exact zSame_err (-1) (by decide)
  · rw [e1, z_inl, z_inl, if_pos rfl, x10_ofIfF th e2, z_bind]
    exact zSame_err (-1) z_n10
theorem get_dueDay (H : zRH n P W L B D T hc hp hw hs hb hd ht m) (th a : Int32) (out : Nat → Int64) : zSame (f_L_dueDay hc hs hd out a) (f_X10_dueDay m th a) := by
  unfold f_L_dueDay f_X9_dueDay f_X10_dueDay
  rcases rq_hammer H a with ⟨k, hk, rfl, e1, e2⟩ | ⟨e1, e2⟩
  · obtain ⟨h1, h2, h3, h4, h5, h6, h7, h8, h9, h10⟩ := H
    subst h2
    rw [e1, z_inr, rq_lent h1 hk (h5 k hk).2.2, show f_X10_ofHammerIf m th (nI k) 1 5 = _ from x10_ofIf1 (f := 5) th e2 (by omega) (by omega) (h6 k hk).2.2.1]
    by_cases c : 18 ≤ L k
    · have l18 : L k = 18 := by have := (h4 k hk).2.2; omega
      have d := h7 k hk l18
      rw [if_pos c, if_pos c, z_inr, x2_dueDayOf hd h1 hk, z_bind, z_inr, if_pos (show jin 0 1 = true by decide), z_bind, d.2.2.2.1, d.2.2.2.2.2]
      exact zSame_val out _
    · rw [if_neg c, if_neg c, z_inl, z_inl, if_neg (by decide), if_pos rfl, z_bind]
      exact zSame_err (-1) (by decide)
  · rw [e1, z_inl, z_inl, if_pos rfl, x10_ofIfF th e2, z_bind]
    exact zSame_err (-1) z_n10
theorem get_rackOf (H : zRH n P W L B D T hc hp hw hs hb hd ht m) (th a : Int32) (out : Nat → Int64) : zSame (f_L_rackOf hc hs out a) (f_X10_rackOf m th a) := by
  unfold f_L_rackOf f_X9_rackOf f_X10_rackOf
  rcases rq_hammer H a with ⟨k, hk, rfl, e1, e2⟩ | ⟨e1, e2⟩
  · obtain ⟨h1, h2, h3, h4, h5, h6, h7, h8, h9, h10⟩ := H
    subst h2
    rw [e1, z_inr, rq_inRack h1 hk (h5 k hk).2.2, show f_X10_ofHammerIf m th (nI k) 0 2 = _ from x10_ofIf0 (f := 2) th e2 (by omega) (by omega) (h6 k hk).2.2.1]
    by_cases c : 18 ≤ L k
    · rw [if_pos c, if_pos c, z_inl, z_inl, if_neg (by decide), if_pos rfl, z_bind]
      exact zSame_err (-1) (by decide)
    · rw [if_neg c, if_neg c, z_inr, x2_slotOf hs h1 hk, z_bind, z_inr, if_pos (show jin 0 1 = true by decide), z_bind, (h5 k hk).2.2, zS_lt (by omega), show nI (L k) / 6 = nI (L k / 6) from pk_div (d := 6) (by omega) (by omega) (by omega)]
      dsimp only
      rw [(h6 k hk).2.2.1, show zR (L k) = nI (L k / 6) by unfold zR; rw [if_pos (by omega)]]
      exact zSame_val out _
  · rw [e1, z_inl, z_inl, if_pos rfl, x10_ofIfF th e2, z_bind]
    exact zSame_err (-1) z_n10
theorem get_placeOf (H : zRH n P W L B D T hc hp hw hs hb hd ht m) (th a : Int32) (out : Nat → Int64) : zSame (f_L_placeOf hc hs out a) (f_X10_placeOf m th a) := by
  unfold f_L_placeOf f_X9_placeOf f_X10_placeOf
  rcases rq_hammer H a with ⟨k, hk, rfl, e1, e2⟩ | ⟨e1, e2⟩
  · obtain ⟨h1, h2, h3, h4, h5, h6, h7, h8, h9, h10⟩ := H
    subst h2
    rw [e1, z_inr, rq_inRack h1 hk (h5 k hk).2.2, show f_X10_ofHammerIf m th (nI k) 0 3 = _ from x10_ofIf0 (f := 3) th e2 (by omega) (by omega) (h6 k hk).2.2.1]
    by_cases c : 18 ≤ L k
    · rw [if_pos c, if_pos c, z_inl, z_inl, if_neg (by decide), if_pos rfl, z_bind]
      exact zSame_err (-1) (by decide)
    · rw [if_neg c, if_neg c, z_inr, x2_slotOf hs h1 hk, z_bind, z_inr, if_pos (show jin 0 1 = true by decide), z_bind, (h5 k hk).2.2, zS_lt (by omega), show nI (L k) / 6 = nI (L k / 6) from pk_div (d := 6) (by omega) (by omega) (by omega), z_mull, show nI (L k) - nI (L k / 6 * 6) = nI (L k - L k / 6 * 6) from pk_sub (by omega)]
      dsimp only
      rw [(h6 k hk).2.2.2, show zP (L k) = nI (L k - L k / 6 * 6) by unfold zP; rw [if_pos (by omega), show L k % 6 = L k - L k / 6 * 6 by omega]]
      exact zSame_val out _
  · rw [e1, z_inl, z_inl, if_pos rfl, x10_ofIfF th e2, z_bind]
    exact zSame_err (-1) z_n10
end ZG

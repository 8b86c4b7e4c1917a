/-! blocks of a world, in another order -/
def jcat : List va_W → va_W
  | [] => []
  | [a] => a
  | a :: b :: r => a ++ jcat (b :: r)
theorem jcat_flat : ∀ bs : List va_W, jcat bs = bs.flatten
  | [] => rfl
  | [a] => by show a = [a].flatten; simp
  | a :: b :: r => by
    show a ++ jcat (b :: r) = _
    rw [jcat_flat (b :: r)]
    rfl
theorem jflat_perm {l1 l2 : List va_W} (h : l1.Perm l2) : l1.flatten.Perm l2.flatten := by
  induction h with
  | nil => exact List.Perm.refl _
  | cons x _ ih => exact ih.append_left x
  | swap x y r =>
    show (y ++ (x ++ r.flatten)).Perm (x ++ (y ++ r.flatten))
    exact jPull y x r.flatten
  | trans _ _ ih1 ih2 => exact ih1.trans ih2
theorem jget_range (bs : List va_W) : (List.range bs.length).map (fun i => bs.getD i []) = bs := by
  apply List.ext_getElem
  · simp
  · intro i h1 h2
    simp [h2]
theorem jmix_perm {bs : List va_W} {is js : List Nat} (n : Nat) (hn : bs.length = n) (h : (is ++ js).Perm (List.range n)) : (jcat (is.map (fun i => bs.getD i [])) ++ jcat (js.map (fun i => bs.getD i []))).Perm (jcat bs) := by
  subst hn
  rw [jcat_flat, jcat_flat, jcat_flat, ← List.flatten_append, ← List.map_append]
  have h2 := jflat_perm (h.map (fun i => bs.getD i []))
  rw [jget_range] at h2
  exact h2
theorem j_mix {X : jX} {l0 : Launch} {D0 : va_G} {T0 : List (ClassId × FieldType)} {cc : ByteArray} {own : String} {rt : Option FieldType} {rm : Room} {nL : Nat} {a b : Nat} {ws : va_W} {pc : Nat} {ls : List (Nat × Value)} {st : List Value} (h : jOK X l0 D0 T0 cc own rt rm nL) (bs : List va_W) (is js : List Nat) (n : Nat) (hn : bs.length = n) (hp : (is ++ js).Perm (List.range n)) (hw : ws = jcat bs)
    (kk : (∀ (bs' : List va_W) (a b pc : Nat) (ls : List (Nat × Value)) (st : List Value), bs'.length = bs.length → J X a b (jcat bs') pc ls st → J X a b (jcat (is.map (fun i => bs'.getD i [])) ++ jcat (js.map (fun i => bs'.getD i []))) pc ls st) → J X a b (jcat (is.map (fun i => bs.getD i [])) ++ jcat (js.map (fun i => bs.getD i []))) pc ls st) : J X a b ws pc ls st := by
  subst hw
  have k := kk (fun bs' a b pc ls st hl q => by
    have hp2 := jmix_perm (bs := bs') (is := is) (js := js) n (hl.trans hn) hp
    obtain ⟨p, l, e, R, s, m, args, below, meth, c, D, T, A, nL1, Q⟩ := X
    exact fun H locs sl hP hD hS hv => q H locs sl (jP_perm (fun z hz => hp2.symm.subset hz) hP) (jD_perm hp2.symm hD) hS hv)
  have hp2 := jmix_perm n hn hp
  obtain ⟨p, l, e, R, s, m, args, below, meth, c, D, T, A, nL1, Q⟩ := X
  exact fun H locs sl hP hD hS hv => k H locs sl (jP_perm (fun z hz => hp2.subset hz) hP) (jD_perm hp2 hD) hS hv
theorem jFr2_r {F : va_W → va_W → va_W} (h : jFr2 F) (post : va_W) : jFr2 (fun x y => F x y ++ post) := by
  obtain ⟨rest, hp⟩ := h
  refine ⟨rest ++ post, fun x y => ?_⟩
  have := (hp x y).append_right post
  rw [List.append_assoc] at this
  exact this
theorem jsum_l {α β γ : Type} {f : α → γ} {g : β → γ} {a : α} {o : γ} (h : Sum.elim f g (.inl a) = o) : f a = o := h
def wD (t : Nat → ClassId) (ad : Nat → Nat) (o oS oN oY oG oC oP oB : Nat) (d_hasSnapshot d_errorAt d_failedAt : Int32) : va_W := [(ad (o), .inr (12, [.ref (ad (oS)), .ref (ad (oN)), .ref (ad (oY)), .ref (ad (oG)), .ref (ad (oC)), .ref (ad (oP)), .ref (ad (oB)), .int d_hasSnapshot, .int d_errorAt, .int d_failedAt]))]
/-- what a State holds, in one bundle -/
abbrev SB : Type := Int32 × (Nat → Int32) × (Nat → Int32) × (Nat → Int32) × (Nat → Int32) × (Nat → Int32) × (Nat → Int32) × Int32 × Int32 × (Nat → Int32) × (Nat → Int32) × (Nat → Int32) × (Nat → Int32) × (Nat → Int32) × (Nat → Int32) × Int32 × (Nat → Int32) × (Nat → Int32) × (Nat → Int32) × (Nat → Int32) × Int32 × Int32 × Int32 × Int32 × Int32 × Int32 × Int32
def wSb (t : Nat → ClassId) (ad : Nat → Nat) (o : Nat) (b : SB) : va_W := wS t ad o (b.1) (b.2.1) (b.2.2.1) (b.2.2.2.1) (b.2.2.2.2.1) (b.2.2.2.2.2.1) (b.2.2.2.2.2.2.1) (b.2.2.2.2.2.2.2.1) (b.2.2.2.2.2.2.2.2.1) (b.2.2.2.2.2.2.2.2.2.1) (b.2.2.2.2.2.2.2.2.2.2.1) (b.2.2.2.2.2.2.2.2.2.2.2.1) (b.2.2.2.2.2.2.2.2.2.2.2.2.1) (b.2.2.2.2.2.2.2.2.2.2.2.2.2.1) (b.2.2.2.2.2.2.2.2.2.2.2.2.2.2.1) (b.2.2.2.2.2.2.2.2.2.2.2.2.2.2.2.1) (b.2.2.2.2.2.2.2.2.2.2.2.2.2.2.2.2.1) (b.2.2.2.2.2.2.2.2.2.2.2.2.2.2.2.2.2.1) (b.2.2.2.2.2.2.2.2.2.2.2.2.2.2.2.2.2.2.1) (b.2.2.2.2.2.2.2.2.2.2.2.2.2.2.2.2.2.2.2.1) (b.2.2.2.2.2.2.2.2.2.2.2.2.2.2.2.2.2.2.2.2.1) (b.2.2.2.2.2.2.2.2.2.2.2.2.2.2.2.2.2.2.2.2.2.1) (b.2.2.2.2.2.2.2.2.2.2.2.2.2.2.2.2.2.2.2.2.2.2.1) (b.2.2.2.2.2.2.2.2.2.2.2.2.2.2.2.2.2.2.2.2.2.2.2.1) (b.2.2.2.2.2.2.2.2.2.2.2.2.2.2.2.2.2.2.2.2.2.2.2.2.1) (b.2.2.2.2.2.2.2.2.2.2.2.2.2.2.2.2.2.2.2.2.2.2.2.2.2.1) (b.2.2.2.2.2.2.2.2.2.2.2.2.2.2.2.2.2.2.2.2.2.2.2.2.2.2)
abbrev sbOf (h_count : Int32) (h_pitches : Nat → Int32) (h_wears : Nat → Int32) (h_slots : Nat → Int32) (h_borrowers : Nat → Int32) (h_dueDays : Nat → Int32) (h_contents : Nat → Int32) (r_count : Int32) (r_nextId : Int32) (r_ids : Nat → Int32) (r_borrowers : Nat → Int32) (r_pitches : Nat → Int32) (r_tolerances : Nat → Int32) (r_firstDays : Nat → Int32) (r_lastDays : Nat → Int32) (b_count : Int32) (b_hammers : Nat → Int32) (b_borrowers : Nat → Int32) (b_firstDays : Nat → Int32) (b_lastDays : Nat → Int32) (s_day : Int32) (s_coins : Int32) (s_bookingCoins : Int32) (s_lateCoins : Int32) (s_faceCosts : Int32) (s_broken : Int32) (s_lent : Int32) : SB := (h_count, h_pitches, h_wears, h_slots, h_borrowers, h_dueDays, h_contents, r_count, r_nextId, r_ids, r_borrowers, r_pitches, r_tolerances, r_firstDays, r_lastDays, b_count, b_hammers, b_borrowers, b_firstDays, b_lastDays, s_day, s_coins, s_bookingCoins, s_lateCoins, s_faceCosts, s_broken, s_lent)
/-- the address of a slot of the history: the state in it -/
def jSl (o i : Nat) : Nat := o + 2 + 20 * i
def wSs (t : Nat → ClassId) (ad : Nat → Nat) (o : Nat) (hs : Nat → SB) : va_W := jcat [wSb t ad (jSl o 0) (hs 0), wSb t ad (jSl o 1) (hs 1), wSb t ad (jSl o 2) (hs 2), wSb t ad (jSl o 3) (hs 3), wSb t ad (jSl o 4) (hs 4), wSb t ad (jSl o 5) (hs 5), wSb t ad (jSl o 6) (hs 6), wSb t ad (jSl o 7) (hs 7), wSb t ad (jSl o 8) (hs 8)]
def wY (t : Nat → ClassId) (ad : Nat → Nat) (o : Nat) (y_hs : Nat → SB) (y_spare y_count : Int32) : va_W := [(ad (o), .inr (7, [.ref (ad (o + 1)), .int y_spare, .int y_count])), (ad (o + 1), .inl (t 5, 9, .inr (.inr (.inr (.inr (fun i => some (ad (jSl o i))))))))] ++ wSs t ad o y_hs

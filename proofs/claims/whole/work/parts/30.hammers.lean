/-! PURE: the hammers. n of them; pitch P, wear W, slot L (18: lent), borrower B, due day D -/
def zS (l : Nat) : Int32 := if l < 18 then nI l else -1
def zR (l : Nat) : Int32 := if l < 18 then nI (l / 6) else -1
def zP (l : Nat) : Int32 := if l < 18 then nI (l % 6) else -1
def zO (n k : Nat) : Int32 := if k < n then nI k else -1
/-- who lies at a slot: its number, or n -/
abbrev zAt (n : Nat) (L : Nat → Nat) (s : Nat) : Nat := pzf (fun k => L k == s) n
def zRH (n : Nat) (P W L B D : Nat → Nat) (T : Nat) (hc : Int32) (hp hw hs hb hd ht m : Nat → Int32) : Prop :=
  n ≤ 12 ∧ hc = nI n ∧ m 0 = nI n ∧ (∀ k, k < n → P k ≤ 60 ∧ W k ≤ 100 ∧ L k ≤ 18) ∧
  (∀ k, k < n → hp k = nI (P k) ∧ hw k = nI (W k) ∧ hs k = zS (L k)) ∧
  (∀ k, k < n → m (8 + 6 * k) = nI (P k) ∧ m (8 + 6 * k + 1) = nI (W k) ∧ m (8 + 6 * k + 2) = zR (L k) ∧ m (8 + 6 * k + 3) = zP (L k)) ∧
  (∀ k, k < n → L k = 18 → B k ≤ 9 ∧ D k ≤ T + 40 ∧ hb k = nI (B k) ∧ hd k = nI (D k) ∧ m (8 + 6 * k + 4) = nI (B k) ∧ m (8 + 6 * k + 5) = nI (D k)) ∧
  (∀ k, n ≤ k → k < 12 → m (8 + 6 * k + 1) = nI 0) ∧
  (∀ s, s < 18 → ht s = zO n (zAt n L s)) ∧
  (∀ i j, i < n → j < n → L i = L j → L i < 18 → i = j)
theorem zO_m1 {n k : Nat} (hn : n ≤ 12) : (zO n k = -1) = (n ≤ k) := by
  unfold zO
  by_cases h : k < n
  · rw [if_pos h, z_m1 (by omega)]; exact propext ⟨False.elim, fun q => by omega⟩
  · rw [if_neg h]; exact propext ⟨fun _ => by omega, fun _ => rfl⟩
theorem zS_m1 {l : Nat} : (zS l = -1) = (18 ≤ l) := by
  unfold zS
  by_cases h : l < 18
  · rw [if_pos h, z_m1 (by omega)]; exact propext ⟨False.elim, fun q => by omega⟩
  · rw [if_neg h]; exact propext ⟨fun _ => by omega, fun _ => rfl⟩
theorem zR_m1 {l : Nat} : (zR l = -1) = (18 ≤ l) := by
  unfold zR
  by_cases h : l < 18
  · rw [if_pos h, z_m1 (by omega)]; exact propext ⟨False.elim, fun q => by omega⟩
  · rw [if_neg h]; exact propext ⟨fun _ => by omega, fun _ => rfl⟩
theorem z_m1r {a : Nat} (ha : a < 2147483648) : ((-1 : Int32) = nI a) = False := by rw [show ((-1 : Int32) = nI a) = (nI a = -1) from propext ⟨Eq.symm, Eq.symm⟩]; exact z_m1 ha
theorem zR_eq {l r : Nat} (hr : r < 3) : (zR l = nI r) = (l < 18 ∧ l / 6 = r) := by
  unfold zR
  by_cases h : l < 18
  · rw [if_pos h, z_eq (by omega) (by omega)]; exact propext ⟨fun e => ⟨h, e⟩, fun e => e.2⟩
  · rw [if_neg h, z_m1r (by omega)]; exact propext ⟨False.elim, fun e => h e.1⟩
theorem zP_eq {l p : Nat} (hp : p < 6) : (zP l = nI p) = (l < 18 ∧ l % 6 = p) := by
  unfold zP
  by_cases h : l < 18
  · rw [if_pos h, z_eq (by omega) (by omega)]; exact propext ⟨fun e => ⟨h, e⟩, fun e => e.2⟩
  · rw [if_neg h, z_m1r (by omega)]; exact propext ⟨False.elim, fun e => h e.1⟩
/-! readers of the class -/
theorem x2_hasT {n k : Nat} (hn : n ≤ 12) (hk : k < n) : f_X2_has (nI n) (nI k) = some 1 := by
  unfold f_X2_has
  rw [if_neg (nI_pos (by omega)), if_neg (nI_ge hk (by omega)), if_neg (show ¬ (12 : Int32) ≤ nI k from nI_ge (b := 12) (by omega) (by omega))]
theorem x2_hasF {n : Nat} {x : Int32} (h : x < 0 ∨ nI n ≤ x) : f_X2_has (nI n) x = some 0 := by
  unfold f_X2_has
  rcases h with h | h
  · rw [if_pos h]
  · by_cases h0 : x < 0
    · rw [if_pos h0]
    · rw [if_neg h0, if_pos h]
theorem x2_hasM1 (n : Nat) : f_X2_has (nI n) (-1) = some 0 := x2_hasF (Or.inl (by decide))
theorem x2_pitchOf {n k : Nat} (f : Nat → Int32) (hn : n ≤ 12) (hk : k < n) : f_X2_pitchOf (nI n) f (nI k) = some (f k) := by
  unfold f_X2_pitchOf
  rw [x2_hasT hn hk, z_bind, if_neg (by decide), if_pos (by rw [z_jin (by omega)]; simp; omega), z_cl (by omega)]
theorem x2_wearOf {n k : Nat} (f : Nat → Int32) (hn : n ≤ 12) (hk : k < n) : f_X2_wearOf (nI n) f (nI k) = some (f k) := by
  unfold f_X2_wearOf
  rw [x2_hasT hn hk, z_bind, if_neg (by decide), if_pos (by rw [z_jin (by omega)]; simp; omega), z_cl (by omega)]
theorem x2_slotOf {n k : Nat} (f : Nat → Int32) (hn : n ≤ 12) (hk : k < n) : f_X2_slotOf (nI n) f (nI k) = some (f k) := by
  unfold f_X2_slotOf
  rw [x2_hasT hn hk, z_bind, if_neg (by decide), if_pos (by rw [z_jin (by omega)]; simp; omega), z_cl (by omega)]
theorem x2_borrowerOf {n k : Nat} (f : Nat → Int32) (hn : n ≤ 12) (hk : k < n) : f_X2_borrowerOf (nI n) f (nI k) = some (f k) := by
  unfold f_X2_borrowerOf
  rw [x2_hasT hn hk, z_bind, if_neg (by decide), if_pos (by rw [z_jin (by omega)]; simp; omega), z_cl (by omega)]
theorem x2_dueDayOf {n k : Nat} (f : Nat → Int32) (hn : n ≤ 12) (hk : k < n) : f_X2_dueDayOf (nI n) f (nI k) = some (f k) := by
  unfold f_X2_dueDayOf
  rw [x2_hasT hn hk, z_bind, if_neg (by decide), if_pos (by rw [z_jin (by omega)]; simp; omega), z_cl (by omega)]
theorem x2_isAway {n k : Nat} (f : Nat → Int32) {l : Nat} (hn : n ≤ 12) (hk : k < n) (hf : f k = zS l) : f_X2_isAway (nI n) f (nI k) = some (if 18 ≤ l then 1 else 0) := by
  unfold f_X2_isAway
  rw [x2_hasT hn hk, z_bind, if_neg (by decide), if_pos (by rw [z_jin (by omega)]; simp; omega), z_cl (by omega), hf]
  simp only [zS_m1]
  split <;> rfl
theorem x2_contentOf {r p : Nat} (f : Nat → Int32) (hr : r < 3) (hp : p < 6) : f_X2_contentOf f (nI r) (nI p) = some (f (r * 6 + p)) := by
  unfold f_X2_contentOf
  rw [z_rack9 hr, z_bind, if_neg (by decide), z_place9 hp, z_bind, if_neg (by decide)]
  rw [show nI r * 6 + nI p = nI (r * 6 + p) by rw [z_mull, nI_add]]
  rw [if_pos (by rw [z_jin (by omega)]; simp; omega), z_cl (by omega)]
theorem x2_setContent {n r p k : Nat} (hs ht : Nat → Int32) (hn : n ≤ 12) (hr : r < 3) (hp : p < 6) (hk : k < n) : f_X2_setContent (nI n) hs ht (nI r) (nI p) (nI k) = some (upd hs k (nI (r * 6 + p)), upd ht (r * 6 + p) (nI k)) := by
  unfold f_X2_setContent
  rw [z_rack9 hr, z_bind, if_neg (by decide), z_place9 hp, z_bind, if_neg (by decide)]
  rw [show nI r * 6 + nI p = nI (r * 6 + p) by rw [z_mull, nI_add]]
  rw [if_pos (by rw [z_jin (by omega)]; simp; omega), x2_hasT hn hk, z_bind, if_neg (by decide), if_pos (by rw [z_jin (by omega)]; simp; omega), z_cl (by omega), z_cl (by omega)]
theorem x2_setContentN {n r p : Nat} (hs ht : Nat → Int32) (hr : r < 3) (hp : p < 6) : f_X2_setContent (nI n) hs ht (nI r) (nI p) (-1) = some (hs, upd ht (r * 6 + p) (-1)) := by
  unfold f_X2_setContent
  rw [z_rack9 hr, z_bind, if_neg (by decide), z_place9 hp, z_bind, if_neg (by decide)]
  rw [show nI r * 6 + nI p = nI (r * 6 + p) by rw [z_mull, nI_add]]
  rw [if_pos (by rw [z_jin (by omega)]; simp; omega), x2_hasM1, z_bind, if_pos rfl, z_cl (by omega)]
theorem x2_takeOut {n k l : Nat} (hs ht : Nat → Int32) (hn : n ≤ 12) (hk : k < n) (hl : l < 18) (h : hs k = nI l) : f_X2_takeOut (nI n) hs ht (nI k) = some (upd hs k (-1), upd ht l (-1)) := by
  unfold f_X2_takeOut
  rw [x2_hasT hn hk, z_bind, if_neg (by decide), if_pos (by rw [z_jin (by omega)]; simp; omega), z_cl (by omega), h, if_neg (nI_pos (by omega)), if_neg (show ¬ (18 : Int32) ≤ nI l from nI_ge (b := 18) (by omega) (by omega)), if_pos (by rw [z_jin (by omega)]; simp; omega), if_pos (by rw [z_jin (by omega)]; simp; omega), z_cl (by omega)]
theorem x2_lend {n k l : Nat} (hs hb hd ht : Nat → Int32) (b d : Int32) (hn : n ≤ 12) (hk : k < n) (hl : l < 18) (h : hs k = nI l) : f_X2_lend (nI n) hs hb hd ht (nI k) b d = some (upd hs k (-1), upd hb k b, upd hd k d, upd ht l (-1)) := by
  unfold f_X2_lend
  rw [x2_hasT hn hk, z_bind, if_neg (by decide), x2_takeOut hs ht hn hk hl h, z_bind, if_pos (by rw [z_jin (by omega)]; simp; omega), if_pos (by rw [z_jin (by omega)]; simp; omega), z_cl (by omega)]
theorem x2_setWear {n k : Nat} (hw : Nat → Int32) (x : Int32) (hn : n ≤ 12) (hk : k < n) : f_X2_setWear (nI n) hw (nI k) x = some (upd hw k x) := by
  unfold f_X2_setWear
  rw [x2_hasT hn hk, z_bind, if_neg (by decide), if_pos (by rw [z_jin (by omega)]; simp; omega), z_cl (by omega)]
theorem x2_isFull {n : Nat} (hn : n ≤ 12) : f_X2_isFull (nI n) = some (if n < 12 then 0 else 1) := by
  unfold f_X2_isFull
  by_cases h : n < 12
  · rw [if_pos (show nI n < (12 : Int32) from nI_lt (b := 12) h (by omega)), if_pos h]
  · rw [if_neg (show ¬ nI n < (12 : Int32) from nI_nlt (a := n) (b := 12) (by omega) (by omega)), if_neg h]
theorem x2_add {n : Nat} (hp hw hs : Nat → Int32) (x : Int32) (hn : n < 12) : f_X2_add (nI n) hp hw hs x = some (nI n, nI (n + 1), upd hp n x, upd hw n 0, upd hs n (-1)) := by
  unfold f_X2_add
  rw [x2_isFull (by omega), if_pos hn, z_bind, if_pos rfl, if_pos (by rw [z_jin (by omega)]; simp; omega), if_pos (by rw [z_jin (by omega)]; simp; omega), if_pos (by rw [z_jin (by omega)]; simp; omega), z_cl (by omega), nI_1]
/-! readers of the model -/
theorem x10_hammerOf (k : Nat) : f_X10_hammerOf (nI k) = some (nI (8 + 6 * k)) := by
  unfold f_X10_hammerOf
  rw [z_lmul, z_ladd]
theorem x10_requestOf (k : Nat) : f_X10_requestOf (nI k) = some (nI (80 + 6 * k)) := by
  unfold f_X10_requestOf
  rw [z_lmul, z_ladd]
theorem x10_bookingOf (k : Nat) : f_X10_bookingOf (nI k) = some (nI (128 + 4 * k)) := by
  unfold f_X10_bookingOf
  rw [z_lmul, z_ladd]
theorem x10_isHammerT {m : Nat → Int32} {n k : Nat} (hn : n ≤ 12) (hm : m 0 = nI n) (hk : k < n) : f_X10_isHammer m (nI k) = some 1 := by
  unfold f_X10_isHammer
  rw [if_pos (by decide), show (0 : Int32).toNatClampNeg = 0 from rfl, hm, z_inT (y := 0) (z := (nI n - 1).toInt64) (nI 0) (nI n - 1) rfl rfl ⟨by rw [z_le (by omega) (by omega)]; omega, by rw [z_subl (by omega), z_le (by omega) (by omega)]; omega⟩]
  rfl
theorem x10_isHammerF {m : Nat → Int32} {n : Nat} {x : Int32} (hn : n ≤ 12) (hm : m 0 = nI n) (hx : x < 0 ∨ nI n ≤ x) : f_X10_isHammer m x = some 0 := by
  unfold f_X10_isHammer
  rw [if_pos (by decide), show (0 : Int32).toNatClampNeg = 0 from rfl, hm, z_inF (y := 0) (z := (nI n - 1).toInt64) (nI 0) (nI n - 1) rfl rfl (fun h => ?_)]
  · rfl
  · rcases hx with hx | hx
    · exact (fa_of_lt hx).2.1 h.1
    · have h2 := h.2
      rw [Int32.le_iff_toInt_le] at h2 hx
      rw [nI_toInt (by omega)] at hx
      have : (nI n - 1).toInt = (n : Int) - 1 := pk_sub_toInt (a := n) (b := 1) (by omega) (by omega)
      omega
theorem x10_standing {n : Nat} {L : Nat → Nat} {m : Nat → Int32} {r p : Nat} (hn : n ≤ 12) (hm : m 0 = nI n) (hR : ∀ k, k < n → m (8 + 6 * k + 2) = zR (L k) ∧ m (8 + 6 * k + 3) = zP (L k)) (hr : r < 3) (hp : p < 6) : f_X10_standing m (nI r) (nI p) = some (zO n (zAt n L (r * 6 + p))) := by
  have key := pzL (F := f_X10_standing_L2 m (nI r) (nI p)) (n := n) (fun k => L k == r * 6 + p) (fun k => nI k)
    (fun fu => by
      rw [f_X10_standing_L2, if_pos (by decide), show (0 : Int32).toNatClampNeg = 0 from rfl, hm, if_pos (nI_le (Nat.le_refl _) (by omega))])
    (fun fu k hk => by
      have h1 := hR k hk
      rw [f_X10_standing_L2, if_pos (by decide), show (0 : Int32).toNatClampNeg = 0 from rfl, hm, if_neg (nI_ge hk (by omega)), x10_hammerOf]
      simp only [z_bind, z_addl]
      rw [if_pos (c := jin (nI (8 + 6 * k + 2)) 2048 = true) (by rw [z_jin (by omega)]; simp; omega), if_pos (c := jin (nI (8 + 6 * k + 3)) 2048 = true) (by rw [z_jin (by omega)]; simp; omega), z_cl (by omega), z_cl (by omega), h1.1, h1.2]
      simp only [zR_eq hr, zP_eq hp, beq_iff_eq, nI_1]
      by_cases e : L k = r * 6 + p
      · rw [if_pos (by omega), if_pos (by omega), if_pos e]
      · rw [if_neg e]
        by_cases e2 : L k < 18 ∧ L k / 6 = r
        · rw [if_pos e2, if_neg (by omega)]
        · rw [if_neg e2])
    jFU (pz_jFU (by omega))
  unfold f_X10_standing
  rw [show (0 : Int32) = nI 0 from rfl, key]
  unfold zO
  by_cases h : pzf (fun k => L k == r * 6 + p) n < n
  · rw [if_pos h, if_pos h]; rfl
  · rw [if_neg h, if_neg h]; rfl

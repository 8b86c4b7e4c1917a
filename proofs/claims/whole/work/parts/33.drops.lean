/-! PURE: what is removed moves up -/
def zSh (p e : Nat) (f : Nat → Int32) : Nat → Int32 := fun j => if p ≤ j ∧ j < e then f (j + 1) else f j
theorem zSh_0 (p : Nat) (f : Nat → Int32) : zSh p p f = f := by
  funext j
  unfold zSh
  rw [if_neg (by omega)]
theorem zSh_s {p i : Nat} (h : p ≤ i) (f : Nat → Int32) : upd (zSh p i f) i (zSh p i f (i + 1)) = zSh p (i + 1) f := by
  funext j
  unfold zSh upd
  by_cases c : j = i
  · subst c
    rw [if_pos rfl, if_neg (by omega), if_pos (by omega)]
  · rw [if_neg c]
    dsimp only
    by_cases d : p ≤ j ∧ j < i
    · rw [if_pos d, if_pos (by omega)]
    · rw [if_neg d, if_neg (by omega)]
theorem x5_remove {q p : Nat} (ri rb rp rt rf rl : Nat → Int32) (hq : q ≤ 8) (hp : p < q) : f_X5_remove (nI q) ri rb rp rt rf rl (nI p) = some (nI (q - 1), zSh p (q - 1) ri, zSh p (q - 1) rb, zSh p (q - 1) rp, zSh p (q - 1) rt, zSh p (q - 1) rf, zSh p (q - 1) rl) := by
  obtain ⟨s, hs, e⟩ := pzG2 (F := fun fu x (s : (Nat → Int32) × (Nat → Int32) × (Nat → Int32) × (Nat → Int32) × (Nat → Int32) × (Nat → Int32)) => f_X5_remove_L21 (nI (q - 1)) fu x s.1 s.2.1 s.2.2.1 s.2.2.2.1 s.2.2.2.2.1 s.2.2.2.2.2) (n := q - 1) p (fun i s => s = (zSh p i ri, zSh p i rb, zSh p i rp, zSh p i rt, zSh p i rf, zSh p i rl))
    (fun fu s _ => by
      show f_X5_remove_L21 (nI (q - 1)) (fu + 1) (nI (q - 1)) s.1 s.2.1 s.2.2.1 s.2.2.2.1 s.2.2.2.2.1 s.2.2.2.2.2 = _
      rw [f_X5_remove_L21, if_pos (nI_le (Nat.le_refl _) (by omega))])
    (fun fu k s hk h0 hs => by
      refine ⟨_, rfl, ?_⟩
      subst hs
      have j1 : jin (nI k) 8 = true := by rw [z_jin (by omega)]; simp; omega
      have j2 : jin (nI (k + 1)) 8 = true := by rw [z_jin (by omega)]; simp; omega
      show f_X5_remove_L21 (nI (q - 1)) (fu + 1) (nI k) _ _ _ _ _ _ = _
      rw [f_X5_remove_L21, if_neg (nI_ge hk (by omega)), nI_1, if_neg (show ¬ (8 : Int32) ≤ nI (k + 1) from nI_ge (b := 8) (by omega) (by omega))]
      simp only [j1, j2, if_true, z_cl (show k < 2147483648 by omega), z_cl (show k + 1 < 2147483648 by omega), zSh_s h0])
    (ri, rb, rp, rt, rf, rl) jFU (by omega) (pz_jFU (by omega)) (by simp only [zSh_0])
  unfold f_X5_remove
  have e' : f_X5_remove_L21 (nI (q - 1)) jFU (nI p) ri rb rp rt rf rl = some (nI (q - 1), s) := e
  rw [x5_hasT hq hp, z_bind, if_neg (by decide), z_subl (by omega), e', z_bind, hs]
theorem x0_remove {b p : Nat} (bh bb bf bl : Nat → Int32) (hb : b ≤ 480) (hp : p < b) : f_X0_remove (nI b) bh bb bf bl (nI p) = some (nI (b - 1), zSh p (b - 1) bh, zSh p (b - 1) bb, zSh p (b - 1) bf, zSh p (b - 1) bl) := by
  obtain ⟨s, hs, e⟩ := pzG2 (F := fun fu x (s : (Nat → Int32) × (Nat → Int32) × (Nat → Int32) × (Nat → Int32)) => f_X0_remove_L21 (nI (b - 1)) fu x s.1 s.2.1 s.2.2.1 s.2.2.2) (n := b - 1) p (fun i s => s = (zSh p i bh, zSh p i bb, zSh p i bf, zSh p i bl))
    (fun fu s _ => by
      show f_X0_remove_L21 (nI (b - 1)) (fu + 1) (nI (b - 1)) s.1 s.2.1 s.2.2.1 s.2.2.2 = _
      rw [f_X0_remove_L21, if_pos (nI_le (Nat.le_refl _) (by omega))])
    (fun fu k s hk h0 hs => by
      refine ⟨_, rfl, ?_⟩
      subst hs
      have j1 : jin (nI k) 480 = true := by rw [z_jin (by omega)]; simp; omega
      have j2 : jin (nI (k + 1)) 480 = true := by rw [z_jin (by omega)]; simp; omega
      show f_X0_remove_L21 (nI (b - 1)) (fu + 1) (nI k) _ _ _ _ = _
      rw [f_X0_remove_L21, if_neg (nI_ge hk (by omega)), nI_1, if_neg (show ¬ (480 : Int32) ≤ nI (k + 1) from nI_ge (b := 480) (by omega) (by omega))]
      simp only [j1, j2, if_true, z_cl (show k < 2147483648 by omega), z_cl (show k + 1 < 2147483648 by omega), zSh_s h0])
    (bh, bb, bf, bl) jFU (by omega) (pz_jFU (by omega)) (by simp only [zSh_0])
  unfold f_X0_remove
  have e' : f_X0_remove_L21 (nI (b - 1)) jFU (nI p) bh bb bf bl = some (nI (b - 1), s) := e
  rw [x0_hasT hb hp, z_bind, if_neg (by decide), z_subl (by omega), e', z_bind, hs]
/-- a row's places from a on below e hold what stood w behind them -/
def zMv (w a e : Nat) (m : Nat → Int32) : Nat → Int32 := fun x => if a ≤ x ∧ x < e then m (x + w) else m x
theorem zMv_0 (w a : Nat) (m : Nat → Int32) : zMv w a a m = m := by
  funext j
  unfold zMv
  rw [if_neg (by omega)]
theorem zMv_s {w a i : Nat} (hw : 0 < w) (h : a ≤ i) (m : Nat → Int32) : upd (zMv w a i m) i (zMv w a i m (i + w)) = zMv w a (i + 1) m := by
  funext j
  unfold zMv upd
  by_cases c : j = i
  · subst c
    rw [if_pos rfl, if_neg (by omega), if_pos (by omega)]
  · rw [if_neg c]
    dsimp only
    by_cases d : a ≤ j ∧ j < i
    · rw [if_pos d, if_pos (by omega)]
    · rw [if_neg d, if_neg (by omega)]
def zZe (a e : Nat) (m : Nat → Int32) : Nat → Int32 := fun x => if a ≤ x ∧ x < e then 0 else m x
theorem zZe_0 (a : Nat) (m : Nat → Int32) : zZe a a m = m := by
  funext j
  unfold zZe
  rw [if_neg (by omega)]
theorem zZe_s {a i : Nat} (h : a ≤ i) (m : Nat → Int32) : upd (zZe a i m) i 0 = zZe a (i + 1) m := by
  funext j
  unfold zZe upd
  by_cases c : j = i
  · subst c
    rw [if_pos rfl, if_pos (by omega)]
  · rw [if_neg c]
    dsimp only
    by_cases d : a ≤ j ∧ j < i
    · rw [if_pos d, if_pos (by omega)]
    · rw [if_neg d, if_neg (by omega)]
def zDropR (q p : Nat) (m : Nat → Int32) : Nat → Int32 := upd (zZe 122 128 (zMv 6 (80 + 6 * p) 122 m)) 4 (nI (q - 1))
theorem x10_dropsRequest {q p : Nat} {m : Nat → Int32} (hq : q ≤ 8) (hm : m 4 = nI q) (hp : p < q) : f_X10_dropsRequest m (nI p) = some (zDropR q p m) := by
  obtain ⟨s, hs, e⟩ := pzG2 (F := f_X10_dropsRequest_L5) (n := 122) (80 + 6 * p) (fun i s => s = zMv 6 (80 + 6 * p) i m)
    (fun fu s _ => by rw [f_X10_dropsRequest_L5, if_pos (by decide)])
    (fun fu k s hk h0 hs => by
      refine ⟨_, rfl, ?_⟩
      subst hs
      rw [f_X10_dropsRequest_L5, if_neg (show ¬ (122 : Int32) ≤ nI k from nI_ge (b := 122) (by omega) (by omega)), z_addl, if_pos (by rw [z_jin (by omega)]; simp; omega), if_pos (by rw [z_jin (by omega)]; simp; omega), z_cl (by omega), z_cl (by omega), zMv_s (by omega) h0, nI_1])
    m jFU (by omega) (pz_jFU (by omega)) (by rw [zMv_0])
  subst hs
  obtain ⟨s, hs, e2⟩ := pzG2 (F := f_X10_dropsRequest_L35) (n := 128) 122 (fun i s => s = zZe 122 i (zMv 6 (80 + 6 * p) 122 m))
    (fun fu s _ => by rw [f_X10_dropsRequest_L35, if_pos (by decide)])
    (fun fu k s hk h0 hs => by
      refine ⟨_, rfl, ?_⟩
      subst hs
      rw [f_X10_dropsRequest_L35, if_neg (show ¬ (128 : Int32) ≤ nI k from nI_ge (b := 128) (by omega) (by omega)), if_pos (by rw [z_jin (by omega)]; simp; omega), z_cl (by omega), zZe_s h0, nI_1])
    (zMv 6 (80 + 6 * p) 122 m) jFU (by omega) (pz_jFU (by omega)) (by rw [zZe_0])
  subst hs
  unfold f_X10_dropsRequest
  rw [x10_requestOf, z_bind, e, z_bind, show f_X10_dropsRequest_L35 jFU 122 = f_X10_dropsRequest_L35 jFU (nI 122) from rfl, e2, z_bind, if_pos (by decide), if_pos (by decide), show (4 : Int32).toNatClampNeg = 4 from rfl]
  have r : zZe 122 128 (zMv 6 (80 + 6 * p) 122 m) 4 = nI q := by
    unfold zZe zMv
    rw [if_neg (by omega), if_neg (by omega), hm]
  dsimp only
  rw [r, z_subl (by omega)]
  rfl
def zDropB (b p : Nat) (m : Nat → Int32) : Nat → Int32 := upd (zZe (128 + 4 * (b - 1)) (128 + 4 * b) (zMv 4 (128 + 4 * p) (128 + 4 * (b - 1)) m)) 5 (nI (b - 1))
theorem x10_dropsBooking {b p : Nat} {m : Nat → Int32} (hb : b ≤ 480) (hm : m 5 = nI b) (hp : p < b) : f_X10_dropsBooking m (nI p) = some (zDropB b p m) := by
  obtain ⟨s, hs, e⟩ := pzG2 (F := f_X10_dropsBooking_L5) (n := 128 + 4 * (b - 1)) (128 + 4 * p) (fun i s => s = zMv 4 (128 + 4 * p) i m)
    (fun fu s hs => by
      subst hs
      have r : zMv 4 (128 + 4 * p) (128 + 4 * (b - 1)) m 5 = nI b := by
        unfold zMv
        rw [if_neg (by omega), hm]
      rw [f_X10_dropsBooking_L5, if_pos (by decide), show (5 : Int32).toNatClampNeg = 5 from rfl, r, z_subl (by omega), x10_bookingOf, z_bind, if_pos (nI_le (Nat.le_refl _) (by omega))])
    (fun fu k s hk h0 hs => by
      refine ⟨_, rfl, ?_⟩
      subst hs
      have r : zMv 4 (128 + 4 * p) k m 5 = nI b := by
        unfold zMv
        rw [if_neg (by omega), hm]
      rw [f_X10_dropsBooking_L5, if_pos (by decide), show (5 : Int32).toNatClampNeg = 5 from rfl, r, z_subl (by omega), x10_bookingOf, z_bind, if_neg (nI_ge hk (by omega)), z_addl, if_pos (by rw [z_jin (by omega)]; simp; omega), if_pos (by rw [z_jin (by omega)]; simp; omega), z_cl (by omega), z_cl (by omega), zMv_s (by omega) h0, nI_1])
    m jFU (by omega) (pz_jFU (by omega)) (by rw [zMv_0])
  subst hs
  have r0 : zMv 4 (128 + 4 * p) (128 + 4 * (b - 1)) m 5 = nI b := by
    unfold zMv
    rw [if_neg (by omega), hm]
  obtain ⟨s, hs, e2⟩ := pzG2 (F := f_X10_dropsBooking_L52) (n := 128 + 4 * b) (128 + 4 * (b - 1)) (fun i s => s = zZe (128 + 4 * (b - 1)) i (zMv 4 (128 + 4 * p) (128 + 4 * (b - 1)) m))
    (fun fu s hs => by
      subst hs
      have r : zZe (128 + 4 * (b - 1)) (128 + 4 * b) (zMv 4 (128 + 4 * p) (128 + 4 * (b - 1)) m) 5 = nI b := by
        unfold zZe
        rw [if_neg (by omega), r0]
      rw [f_X10_dropsBooking_L52, if_pos (by decide), show (5 : Int32).toNatClampNeg = 5 from rfl, r, x10_bookingOf, z_bind, if_pos (nI_le (Nat.le_refl _) (by omega))])
    (fun fu k s hk h0 hs => by
      refine ⟨_, rfl, ?_⟩
      subst hs
      have r : zZe (128 + 4 * (b - 1)) k (zMv 4 (128 + 4 * p) (128 + 4 * (b - 1)) m) 5 = nI b := by
        unfold zZe
        rw [if_neg (by omega), r0]
      rw [f_X10_dropsBooking_L52, if_pos (by decide), show (5 : Int32).toNatClampNeg = 5 from rfl, r, x10_bookingOf, z_bind, if_neg (nI_ge hk (by omega)), if_pos (by rw [z_jin (by omega)]; simp; omega), z_cl (by omega), zZe_s h0, nI_1])
    (zMv 4 (128 + 4 * p) (128 + 4 * (b - 1)) m) jFU (by omega) (pz_jFU (by omega)) (by rw [zZe_0])
  subst hs
  unfold f_X10_dropsBooking
  rw [x10_bookingOf, z_bind, e, z_bind, if_pos (by decide), show (5 : Int32).toNatClampNeg = 5 from rfl]
  dsimp only
  rw [r0, z_subl (by omega), x10_bookingOf, z_bind, e2, z_bind, if_pos (by decide), if_pos (by decide)]
  dsimp only
  have r : zZe (128 + 4 * (b - 1)) (128 + 4 * b) (zMv 4 (128 + 4 * p) (128 + 4 * (b - 1)) m) 5 = nI b := by
    unfold zZe
    rw [if_neg (by omega), r0]
  rw [r, z_subl (by omega)]
  rfl
/-! the model's row behind a removal -/
theorem zDropR_q (q p : Nat) (m : Nat → Int32) : zDropR q p m 4 = nI (q - 1) := by unfold zDropR; rw [z_upds]
theorem zDropR_o {q p x : Nat} (m : Nat → Int32) (h : x < 80 ∨ 128 ≤ x) (h4 : x ≠ 4) : zDropR q p m x = m x := by
  unfold zDropR
  rw [z_updn _ h4]
  unfold zZe zMv
  rw [if_neg (by omega), if_neg (by omega)]
theorem zDropR_r {q p k j : Nat} (m : Nat → Int32) (hq : q ≤ 8) (hk : k < q - 1) (hj : j < 6) : zDropR q p m (80 + 6 * k + j) = if p ≤ k then m (80 + 6 * (k + 1) + j) else m (80 + 6 * k + j) := by
  unfold zDropR
  rw [z_updn _ (by omega)]
  unfold zZe zMv
  rw [if_neg (by omega)]
  by_cases c : p ≤ k
  · rw [if_pos c, if_pos (by omega), show 80 + 6 * k + j + 6 = 80 + 6 * (k + 1) + j by omega]
  · rw [if_neg c, if_neg (by omega)]
theorem zDropB_b (b p : Nat) (m : Nat → Int32) : zDropB b p m 5 = nI (b - 1) := by unfold zDropB; rw [z_upds]
theorem zDropB_o {b p x : Nat} (m : Nat → Int32) (h : x < 128) (h5 : x ≠ 5) : zDropB b p m x = m x := by
  unfold zDropB
  rw [z_updn _ h5]
  unfold zZe zMv
  rw [if_neg (by omega), if_neg (by omega)]
theorem zDropB_r {b p k j : Nat} (m : Nat → Int32) (hk : k < b - 1) (hj : j < 4) : zDropB b p m (128 + 4 * k + j) = if p ≤ k then m (128 + 4 * (k + 1) + j) else m (128 + 4 * k + j) := by
  unfold zDropB
  rw [z_updn _ (by omega)]
  unfold zZe zMv
  rw [if_neg (by omega)]
  by_cases c : p ≤ k
  · rw [if_pos c, if_pos (by omega), show 128 + 4 * k + j + 4 = 128 + 4 * (k + 1) + j by omega]
  · rw [if_neg c, if_neg (by omega)]
theorem zRR_drop {q p T : Nat} {rc rn : Int32} {ri rb rp rt rf rl m : Nat → Int32} (h : zRR q T rc rn ri rb rp rt rf rl m) (hp : p < q) : zRR (q - 1) T (nI (q - 1)) rn (zSh p (q - 1) ri) (zSh p (q - 1) rb) (zSh p (q - 1) rp) (zSh p (q - 1) rt) (zSh p (q - 1) rf) (zSh p (q - 1) rl) (zDropR q p m) := by
  obtain ⟨h1, h2, h3, h4, h5, h6, h7⟩ := h
  have g : ∀ k j, k < q - 1 → j < 6 → zDropR q p m (80 + 6 * k + j) = m (80 + 6 * (if p ≤ k then k + 1 else k) + j) := by
    intro k j hk hj
    rw [zDropR_r m h1 hk hj]
    split <;> rfl
  have s : ∀ (f : Nat → Int32) k, k < q - 1 → zSh p (q - 1) f k = f (if p ≤ k then k + 1 else k) := by
    intro f k hk
    unfold zSh
    by_cases c : p ≤ k
    · rw [if_pos ⟨c, hk⟩, if_pos c]
    · rw [if_neg (fun z => c z.1), if_neg c]
  have ix : ∀ k, k < q - 1 → (if p ≤ k then k + 1 else k) < q := by intro k hk; split <;> omega
  refine ⟨by omega, rfl, zDropR_q _ _ _, by rw [zDropR_o m (by omega) (by omega)]; exact h4, h5, fun k hk => ?_, fun k hk => ?_⟩
  · have := h6 _ (ix k hk)
    rw [s ri k hk, s rb k hk, s rp k hk, s rt k hk, s rf k hk, s rl k hk, g k 1 hk (by omega), g k 2 hk (by omega), g k 3 hk (by omega), g k 4 hk (by omega), g k 5 hk (by omega), show 80 + 6 * k = 80 + 6 * k + 0 from rfl, g k 0 hk (by omega)]
    exact this
  · rw [s rb k hk, s rp k hk, s rl k hk]
    exact h7 _ (ix k hk)
theorem zRB_drop {b p n T : Nat} {bc : Int32} {bh bb bf bl m : Nat → Int32} (h : zRB b n T bc bh bb bf bl m) (hp : p < b) : zRB (b - 1) n T (nI (b - 1)) (zSh p (b - 1) bh) (zSh p (b - 1) bb) (zSh p (b - 1) bf) (zSh p (b - 1) bl) (zDropB b p m) := by
  obtain ⟨h1, h2, h3, h6, h7⟩ := h
  have g : ∀ k j, k < b - 1 → j < 4 → zDropB b p m (128 + 4 * k + j) = m (128 + 4 * (if p ≤ k then k + 1 else k) + j) := by
    intro k j hk hj
    rw [zDropB_r m hk hj]
    split <;> rfl
  have s : ∀ (f : Nat → Int32) k, k < b - 1 → zSh p (b - 1) f k = f (if p ≤ k then k + 1 else k) := by
    intro f k hk
    unfold zSh
    by_cases c : p ≤ k
    · rw [if_pos ⟨c, hk⟩, if_pos c]
    · rw [if_neg (fun z => c z.1), if_neg c]
  have ix : ∀ k, k < b - 1 → (if p ≤ k then k + 1 else k) < b := by intro k hk; split <;> omega
  refine ⟨by omega, rfl, zDropB_b _ _ _, fun k hk => ?_, fun k hk => ?_⟩
  · have := h6 _ (ix k hk)
    rw [s bh k hk, s bb k hk, s bf k hk, s bl k hk, g k 1 hk (by omega), g k 2 hk (by omega), g k 3 hk (by omega), show 128 + 4 * k = 128 + 4 * k + 0 from rfl, g k 0 hk (by omega)]
    exact this
  · rw [s bh k hk, s bb k hk, s bl k hk]
    exact h7 _ (ix k hk)
/-- rows that say nothing of other places of the model's array -/
theorem zRH_kept {n : Nat} {P W L B D : Nat → Nat} {T : Nat} {hc : Int32} {hp hw hs hb hd ht m m' : Nat → Int32} (h : zRH n P W L B D T hc hp hw hs hb hd ht m) (hm : ∀ x, x = 0 ∨ (8 ≤ x ∧ x < 80) → m' x = m x) : zRH n P W L B D T hc hp hw hs hb hd ht m' := by
  obtain ⟨h1, h2, h3, h4, h5, h6, h7, h8, h9, h10⟩ := h
  refine ⟨h1, h2, by rw [hm 0 (by omega)]; exact h3, h4, h5, fun k hk => ?_, fun k hk hl => ?_, fun k hk hk2 => ?_, h9, h10⟩
  · rw [hm _ (by omega), hm _ (by omega), hm _ (by omega), hm _ (by omega)]; exact h6 k hk
  · rw [hm _ (by omega), hm _ (by omega)]; exact h7 k hk hl
  · rw [hm _ (by omega)]; exact h8 k hk hk2
theorem zRR_kept {q T : Nat} {rc rn : Int32} {ri rb rp rt rf rl m m' : Nat → Int32} (h : zRR q T rc rn ri rb rp rt rf rl m) (hm : ∀ x, x = 3 ∨ x = 4 ∨ (80 ≤ x ∧ x < 128) → m' x = m x) : zRR q T rc rn ri rb rp rt rf rl m' := by
  obtain ⟨h1, h2, h3, h4, h5, h6, h7⟩ := h
  refine ⟨h1, h2, by rw [hm 4 (by omega)]; exact h3, by rw [hm 3 (by omega)]; exact h4, h5, fun k hk => ?_, h7⟩
  rw [hm _ (by omega), hm _ (by omega), hm _ (by omega), hm _ (by omega), hm _ (by omega), hm _ (by omega)]; exact h6 k hk
theorem zRB_kept {b n T : Nat} {bc : Int32} {bh bb bf bl m m' : Nat → Int32} (h : zRB b n T bc bh bb bf bl m) (hm : ∀ x, x = 5 ∨ 128 ≤ x → m' x = m x) : zRB b n T bc bh bb bf bl m' := by
  obtain ⟨h1, h2, h3, h6, h7⟩ := h
  refine ⟨h1, h2, by rw [hm 5 (by omega)]; exact h3, fun k hk => ?_, h7⟩
  rw [hm _ (by omega), hm _ (by omega), hm _ (by omega), hm _ (by omega)]; exact h6 k hk

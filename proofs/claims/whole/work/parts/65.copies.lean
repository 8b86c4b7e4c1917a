/-! PURE: copies of states -/
theorem zRH_ext {n T : Nat} {P W L B D : Nat → Nat} {hc : Int32} {hp hw hs hb hd ht m hp' hw' hs' hb' hd' ht' m' : Nat → Int32} (H : zRH n P W L B D T hc hp hw hs hb hd ht m) (a1 : ∀ k, k < 12 → hp' k = hp k) (a2 : ∀ k, k < 12 → hw' k = hw k) (a3 : ∀ k, k < 12 → hs' k = hs k) (a4 : ∀ k, k < 12 → hb' k = hb k) (a5 : ∀ k, k < 12 → hd' k = hd k) (a6 : ∀ s, s < 18 → ht' s = ht s) (em : ∀ x, x < 2048 → m' x = m x) : zRH n P W L B D T hc hp' hw' hs' hb' hd' ht' m' := by
  obtain ⟨h1, h2, h3, h4, h5, h6, h7, h8, h9, h10⟩ := H
  refine ⟨h1, h2, by rw [em 0 (by omega)]; exact h3, h4, fun k hk => ?_, fun k hk => ?_, fun k hk hl => ?_, fun k hk hk2 => ?_, fun s hs0 => ?_, h10⟩
  · rw [a1 k (by omega), a2 k (by omega), a3 k (by omega)]; exact h5 k hk
  · rw [em _ (by omega), em _ (by omega), em _ (by omega), em _ (by omega)]; exact h6 k hk
  · rw [a4 k (by omega), a5 k (by omega), em _ (by omega), em _ (by omega)]; exact h7 k hk hl
  · rw [em _ (by omega)]; exact h8 k hk hk2
  · rw [a6 s hs0]; exact h9 s hs0
theorem zRR_ext {q T : Nat} {rc rn : Int32} {ri rb rp rt rf rl m ri' rb' rp' rt' rf' rl' m' : Nat → Int32} (R : zRR q T rc rn ri rb rp rt rf rl m) (a1 : ∀ k, k < 8 → ri' k = ri k) (a2 : ∀ k, k < 8 → rb' k = rb k) (a3 : ∀ k, k < 8 → rp' k = rp k) (a4 : ∀ k, k < 8 → rt' k = rt k) (a5 : ∀ k, k < 8 → rf' k = rf k) (a6 : ∀ k, k < 8 → rl' k = rl k) (em : ∀ x, x < 2048 → m' x = m x) : zRR q T rc rn ri' rb' rp' rt' rf' rl' m' := by
  obtain ⟨h1, h2, h3, h4, h5, h6, h7⟩ := R
  refine ⟨h1, h2, by rw [em _ (by omega)]; exact h3, by rw [em _ (by omega)]; exact h4, h5, fun k hk => ?_, fun k hk => ?_⟩
  · rw [em _ (by omega), em _ (by omega), em _ (by omega), em _ (by omega), em _ (by omega), em _ (by omega), a1 k (by omega), a2 k (by omega), a3 k (by omega), a4 k (by omega), a5 k (by omega), a6 k (by omega)]; exact h6 k hk
  · rw [a2 k (by omega), a3 k (by omega), a6 k (by omega)]; exact h7 k hk
theorem zRB_ext {b n T : Nat} {bc : Int32} {bh bb bf bl m bh' bb' bf' bl' m' : Nat → Int32} (G : zRB b n T bc bh bb bf bl m) (a1 : ∀ k, k < b → bh' k = bh k) (a2 : ∀ k, k < b → bb' k = bb k) (a3 : ∀ k, k < b → bf' k = bf k) (a4 : ∀ k, k < b → bl' k = bl k) (em : ∀ x, x < 2048 → m' x = m x) : zRB b n T bc bh' bb' bf' bl' m' := by
  obtain ⟨h1, h2, h3, h6, h7⟩ := G
  refine ⟨h1, h2, by rw [em _ (by omega)]; exact h3, fun k hk => ?_, fun k hk => ?_⟩
  · rw [em _ (by omega), em _ (by omega), em _ (by omega), em _ (by omega), a1 k hk, a2 k hk, a3 k hk, a4 k hk]; exact h6 k hk
  · rw [a1 k hk, a2 k hk, a4 k hk]; exact h7 k hk
/-- a state as history keeps it, and the model's array -/
def zRelS (T : Nat) (s : SB) (m : Nat → Int32) : Prop := zRel T s.1 s.2.1 s.2.2.1 s.2.2.2.1 s.2.2.2.2.1 s.2.2.2.2.2.1 s.2.2.2.2.2.2.1 s.2.2.2.2.2.2.2.1 s.2.2.2.2.2.2.2.2.1 s.2.2.2.2.2.2.2.2.2.1 s.2.2.2.2.2.2.2.2.2.2.1 s.2.2.2.2.2.2.2.2.2.2.2.1 s.2.2.2.2.2.2.2.2.2.2.2.2.1 s.2.2.2.2.2.2.2.2.2.2.2.2.2.1 s.2.2.2.2.2.2.2.2.2.2.2.2.2.2.1 s.2.2.2.2.2.2.2.2.2.2.2.2.2.2.2.1 s.2.2.2.2.2.2.2.2.2.2.2.2.2.2.2.2.1 s.2.2.2.2.2.2.2.2.2.2.2.2.2.2.2.2.2.1 s.2.2.2.2.2.2.2.2.2.2.2.2.2.2.2.2.2.2.1 s.2.2.2.2.2.2.2.2.2.2.2.2.2.2.2.2.2.2.2.1 s.2.2.2.2.2.2.2.2.2.2.2.2.2.2.2.2.2.2.2.2.1 s.2.2.2.2.2.2.2.2.2.2.2.2.2.2.2.2.2.2.2.2.2.1 s.2.2.2.2.2.2.2.2.2.2.2.2.2.2.2.2.2.2.2.2.2.2.1 s.2.2.2.2.2.2.2.2.2.2.2.2.2.2.2.2.2.2.2.2.2.2.2.1 s.2.2.2.2.2.2.2.2.2.2.2.2.2.2.2.2.2.2.2.2.2.2.2.2.1 s.2.2.2.2.2.2.2.2.2.2.2.2.2.2.2.2.2.2.2.2.2.2.2.2.2.1 s.2.2.2.2.2.2.2.2.2.2.2.2.2.2.2.2.2.2.2.2.2.2.2.2.2.2 m
theorem z_jcp {b : Nat} (h : b ≤ 480) : jcp 0 0 (nI b) 480 480 = true := by
  have : ∀ b, b < 481 → jcp 0 0 (nI b) 480 480 = true := by decide +kernel
  exact this b (by omega)
theorem cpy_in {α : Type} (src dst : Nat → α) {n k : Nat} (h : k < n) : va_cpy src dst 0 0 n k = src k := by
  unfold va_cpy
  simp [h]
theorem x8_copy {T : Nat} {hc rc rn bc sd sc sbc slc sfc sbr sle : Int32} {hp hw hs hb hd ht ri rb rp rt rf rl bh bb bf bl : Nat → Int32} {m m' : Nat → Int32} (oc qc qn gc ud uc ubc ulc ufc ubr ule : Int32) (op ow os ob od ot qi qb qp qt qf ql gh gb gf gl : Nat → Int32) (R : zRel T hc hp hw hs hb hd ht rc rn ri rb rp rt rf rl bc bh bb bf bl sd sc sbc slc sfc sbr sle m) (em : ∀ x, x < 2048 → m' x = m x) : ∃ s : SB, f_X8_copyFrom oc op ow os ob od ot qc qn qi qb qp qt qf ql gc gh gb gf gl ud uc ubc ulc ufc ubr ule hc hp hw hs hb hd ht rc rn ri rb rp rt rf rl bc bh bb bf bl sd sc sbc slc sfc sbr sle = some s ∧ s.1 = hc ∧ zRelS T s m' := by
  obtain ⟨n, P, W, L, B, D, q, b, d, H, RR, RB, RS⟩ := R
  have b480 := RB.1
  have bce := RB.2.1
  have e2 : f_X2_copyFrom oc op ow os ob od ot hc hp hw hs hb hd ht = some (hc, va_cpy hp op 0 0 12, va_cpy hw ow 0 0 12, va_cpy hs os 0 0 12, va_cpy hb ob 0 0 12, va_cpy hd od 0 0 12, va_cpy ht ot 0 0 18) := by
    unfold f_X2_copyFrom
    rw [if_pos (show jcp 0 0 12 12 12 = true by decide), if_pos (show jcp 0 0 12 12 12 = true by decide), if_pos (show jcp 0 0 12 12 12 = true by decide), if_pos (show jcp 0 0 12 12 12 = true by decide), if_pos (show jcp 0 0 12 12 12 = true by decide), if_pos (show jcp 0 0 18 18 18 = true by decide)]
    rfl
  have e5 : f_X5_copyFrom qc qn qi qb qp qt qf ql rc rn ri rb rp rt rf rl = some (rc, rn, va_cpy ri qi 0 0 8, va_cpy rb qb 0 0 8, va_cpy rp qp 0 0 8, va_cpy rt qt 0 0 8, va_cpy rf qf 0 0 8, va_cpy rl ql 0 0 8) := by
    unfold f_X5_copyFrom
    rw [if_pos (show jcp 0 0 8 8 8 = true by decide), if_pos (show jcp 0 0 8 8 8 = true by decide), if_pos (show jcp 0 0 8 8 8 = true by decide), if_pos (show jcp 0 0 8 8 8 = true by decide), if_pos (show jcp 0 0 8 8 8 = true by decide), if_pos (show jcp 0 0 8 8 8 = true by decide)]
    rfl
  have e0 : f_X0_copyFrom gc gh gb gf gl bc bh bb bf bl = some (bc, va_cpy bh gh 0 0 b, va_cpy bb gb 0 0 b, va_cpy bf gf 0 0 b, va_cpy bl gl 0 0 b) := by
    unfold f_X0_copyFrom
    have j : jmin bc (480 : Int32) = nI b := by
      rw [bce, show (480 : Int32) = nI 480 from rfl, z_jmin (by omega) (by omega), if_neg (by omega)]
    have c : jcp 0 0 (nI b) 480 480 = true := z_jcp b480
    rw [j, if_neg (nI_pos (by omega)), if_pos c, if_pos c, if_pos c, if_pos c, z_cl (by omega), bce]
    rfl
  refine ⟨(hc, va_cpy hp op 0 0 12, va_cpy hw ow 0 0 12, va_cpy hs os 0 0 12, va_cpy hb ob 0 0 12, va_cpy hd od 0 0 12, va_cpy ht ot 0 0 18, rc, rn, va_cpy ri qi 0 0 8, va_cpy rb qb 0 0 8, va_cpy rp qp 0 0 8, va_cpy rt qt 0 0 8, va_cpy rf qf 0 0 8, va_cpy rl ql 0 0 8, bc, va_cpy bh gh 0 0 b, va_cpy bb gb 0 0 b, va_cpy bf gf 0 0 b, va_cpy bl gl 0 0 b, sd, sc, sbc, slc, sfc, sbr, sle), ?_, rfl, n, P, W, L, B, D, q, b, d, ?_, ?_, ?_, ?_⟩
  · unfold f_X8_copyFrom
    rw [e2, z_bind, e5, z_bind, e0, z_bind]
  · exact zRH_ext H (fun k hk => cpy_in _ _ hk) (fun k hk => cpy_in _ _ hk) (fun k hk => cpy_in _ _ hk) (fun k hk => cpy_in _ _ hk) (fun k hk => cpy_in _ _ hk) (fun k hk => cpy_in _ _ hk) em
  · exact zRR_ext RR (fun k hk => cpy_in _ _ hk) (fun k hk => cpy_in _ _ hk) (fun k hk => cpy_in _ _ hk) (fun k hk => cpy_in _ _ hk) (fun k hk => cpy_in _ _ hk) (fun k hk => cpy_in _ _ hk) em
  · exact zRB_ext RB (fun k hk => cpy_in _ _ hk) (fun k hk => cpy_in _ _ hk) (fun k hk => cpy_in _ _ hk) (fun k hk => cpy_in _ _ hk) em
  · exact zRS_kept RS (fun x hx => em x (by omega))

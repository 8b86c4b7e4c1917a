/-! PURE: requests whose day has come are dropped, in both orders the same -/
theorem rm_list {α : Type} (rec : Nat → α) {q p : Nat} (hp : p < q) : ((List.range q).map rec).eraseIdx p = (List.range (q - 1)).map (fun j => if p ≤ j then rec (j + 1) else rec j) := by
  apply List.ext_getElem?
  intro i
  rw [List.getElem?_eraseIdx]
  simp only [List.getElem?_map]
  by_cases c : i < p
  · rw [if_pos c, List.getElem?_range (by omega), List.getElem?_range (by omega)]
    simp only [Option.map_some]
    rw [if_neg (by omega)]
  · rw [if_neg c]
    by_cases d : i + 1 < q
    · rw [List.getElem?_range d, List.getElem?_range (by omega)]
      simp only [Option.map_some]
      rw [if_pos (by omega)]
    · rw [List.getElem?_eq_none (by simp; omega), List.getElem?_eq_none (by simp; omega)]
      rfl
abbrev R6 : Type := Int32 × Int32 × Int32 × Int32 × Int32 × Int32
def rC (ri rb rp rt rf rl : Nat → Int32) (i : Nat) : R6 := (ri i, rb i, rp i, rt i, rf i, rl i)
def rM (m : Nat → Int32) (i : Nat) : R6 := (m (80 + 6 * i), m (80 + 6 * i + 1), m (80 + 6 * i + 2), m (80 + 6 * i + 3), m (80 + 6 * i + 4), m (80 + 6 * i + 5))
abbrev zKeep (day : Int32) (e : R6) : Bool := decide (day < e.2.2.2.2.1)
theorem rC_sh (ri rb rp rt rf rl : Nat → Int32) {q p : Nat} (hp : p < q) : (List.range (q - 1)).map (rC (zSh p (q - 1) ri) (zSh p (q - 1) rb) (zSh p (q - 1) rp) (zSh p (q - 1) rt) (zSh p (q - 1) rf) (zSh p (q - 1) rl)) = ((List.range q).map (rC ri rb rp rt rf rl)).eraseIdx p := by
  rw [rm_list _ hp]
  apply List.map_congr_left
  intro j hj
  rw [List.mem_range] at hj
  unfold rC zSh
  by_cases c : p ≤ j
  · simp only [c, hj, true_and, if_true]
  · simp only [c, hj, false_and, if_false]
theorem rM_sh {m : Nat → Int32} {q p : Nat} (hq : q ≤ 8) (hp : p < q) : (List.range (q - 1)).map (rM (zDropR q p m)) = ((List.range q).map (rM m)).eraseIdx p := by
  rw [rm_list _ hp]
  apply List.map_congr_left
  intro j hj
  rw [List.mem_range] at hj
  unfold rM
  rw [zDropR_r m hq hj (j := 1) (by omega), zDropR_r m hq hj (j := 2) (by omega), zDropR_r m hq hj (j := 3) (by omega), zDropR_r m hq hj (j := 4) (by omega), zDropR_r m hq hj (j := 5) (by omega), show 80 + 6 * j = 80 + 6 * j + 0 from rfl, zDropR_r m hq hj (j := 0) (by omega)]
  by_cases c : p ≤ j
  · simp only [c, if_true, Nat.add_zero]
  · simp only [c, if_false, Nat.add_zero]
theorem x8_dropCome {day : Int32} : ∀ (c : Nat) (pre rest : List R6) (q fu : Nat) (ri rb rp rt rf rl : Nat → Int32), q ≤ 8 → pre.length = c → (List.range q).map (rC ri rb rp rt rf rl) = pre ++ rest → c < fu →
    ∃ x q' ri' rb' rp' rt' rf' rl', f_X8_dropRequestsThatHaveCome_L10 day fu (nI c - 1) (nI q) ri rb rp rt rf rl = some (x, nI q', ri', rb', rp', rt', rf', rl') ∧ q' ≤ q ∧ (List.range q').map (rC ri' rb' rp' rt' rf' rl') = pre.filter (zKeep day) ++ rest := by
  intro c
  induction c with
  | zero =>
    intro pre rest q fu ri rb rp rt rf rl hq hl h hf
    obtain ⟨fu, rfl⟩ : ∃ g, fu = g + 1 := ⟨fu - 1, by omega⟩
    obtain rfl : pre = [] := List.eq_nil_of_length_eq_zero hl
    refine ⟨nI 0 - 1, q, ri, rb, rp, rt, rf, rl, ?_, Nat.le_refl _, h⟩
    rw [f_X8_dropRequestsThatHaveCome_L10, if_pos (by decide)]
  | succ c ih =>
    intro pre rest q fu ri rb rp rt rf rl hq hl h hf
    obtain ⟨fu, rfl⟩ : ∃ g, fu = g + 1 := ⟨fu - 1, by omega⟩
    have hlen : q = c + 1 + rest.length := by
      have := congrArg List.length h
      rw [List.length_map, List.length_range, List.length_append, hl] at this
      exact this
    obtain ⟨pre', e, rfl⟩ : ∃ pre' e, pre = pre' ++ [e] := by
      rcases List.eq_nil_or_concat pre with r | ⟨a, b, r⟩
      · rw [r] at hl; cases hl
      · exact ⟨a, b, by rw [r, List.concat_eq_append]⟩
    have hl' : pre'.length = c := by simpa using hl
    have he : rC ri rb rp rt rf rl c = e := by
      have a : ((List.range q).map (rC ri rb rp rt rf rl))[c]? = some e := by
        rw [h, List.append_assoc, List.getElem?_append_right (by omega), hl', Nat.sub_self]; rfl
      rw [List.getElem?_map, List.getElem?_range (by omega)] at a
      exact Option.some.inj a
    have ef : rf c = e.2.2.2.2.1 := by rw [← he]; rfl
    rw [nI_pred, f_X8_dropRequestsThatHaveCome_L10, if_neg (nI_pos (by omega)), x5_firstDayAt rf hq (show c < q by omega), z_bind, ef]
    have m1 : nI c + (-1) = nI c - 1 := by grind
    by_cases k : day < e.2.2.2.2.1
    · rw [if_pos k, m1]
      obtain ⟨x, q', ri', rb', rp', rt', rf', rl', g1, g2, g3⟩ := ih pre' (e :: rest) q fu ri rb rp rt rf rl hq hl' (by rw [h, List.append_assoc]; rfl) (by omega)
      refine ⟨x, q', ri', rb', rp', rt', rf', rl', g1, g2, ?_⟩
      rw [g3, List.filter_append, List.append_assoc]
      congr 1
      simp [zKeep, k]
    · rw [if_neg k, x5_remove ri rb rp rt rf rl hq (show c < q by omega), z_bind, m1]
      obtain ⟨x, q', ri', rb', rp', rt', rf', rl', g1, g2, g3⟩ := ih pre' rest (q - 1) fu _ _ _ _ _ _ (by omega) hl' (by
        rw [rC_sh ri rb rp rt rf rl (show c < q by omega), h, List.append_assoc, List.eraseIdx_append_of_length_le (by omega), hl', Nat.sub_self]; rfl) (by omega)
      refine ⟨x, q', ri', rb', rp', rt', rf', rl', g1, by omega, ?_⟩
      rw [g3, List.filter_append]
      simp [zKeep, k]
theorem x10_dropCome {d : Nat} : ∀ (rest pre : List R6) (q fu : Nat) (m : Nat → Int32), q ≤ 8 → m 4 = nI q → m 1 = nI d → (List.range q).map (rM m) = pre ++ rest → rest.length < fu →
    ∃ x q' m', f_X10_mostIt_L2 fu (nI pre.length) m = some (x, m') ∧ m' 4 = nI q' ∧ q' ≤ q ∧ (List.range q').map (rM m') = pre ++ rest.filter (zKeep (nI d)) ∧ ∀ z, (z < 80 ∨ 128 ≤ z) → z ≠ 4 → m' z = m z := by
  intro rest
  induction rest with
  | nil =>
    intro pre q fu m hq hm4 hm1 h hf
    obtain ⟨fu, rfl⟩ : ∃ g, fu = g + 1 := ⟨fu - 1, by omega⟩
    have hlen : q = pre.length := by
      have := congrArg List.length h
      rw [List.length_map, List.length_range, List.length_append] at this
      simpa using this
    refine ⟨nI pre.length, q, m, ?_, hm4, Nat.le_refl _, h, fun _ _ _ => rfl⟩
    rw [f_X10_mostIt_L2, if_pos (by decide), show (4 : Int32).toNatClampNeg = 4 from rfl, hm4, if_pos (nI_le (by omega) (by omega))]
  | cons e rest ih =>
    intro pre q fu m hq hm4 hm1 h hf
    obtain ⟨fu, rfl⟩ : ∃ g, fu = g + 1 := ⟨fu - 1, by omega⟩
    rw [List.length_cons] at hf
    have hlen : q = pre.length + (rest.length + 1) := by
      have := congrArg List.length h
      rw [List.length_map, List.length_range, List.length_append, List.length_cons] at this
      exact this
    have hk : pre.length < q := by omega
    have he : rM m pre.length = e := by
      have a : ((List.range q).map (rM m))[pre.length]? = some e := by
        rw [h, List.getElem?_append_right (Nat.le_refl _), Nat.sub_self]; rfl
      rw [List.getElem?_map, List.getElem?_range hk] at a
      exact Option.some.inj a
    have ef : m (80 + 6 * pre.length + 4) = e.2.2.2.2.1 := by rw [← he]; rfl
    rw [f_X10_mostIt_L2, if_pos (by decide), show (4 : Int32).toNatClampNeg = 4 from rfl, hm4, if_neg (nI_ge hk (by omega)), x10_requestOf, z_bind, z_addl, if_pos (show jin (nI (80 + 6 * pre.length + 4)) 2048 = true by rw [z_jin (by omega)]; simp; omega), if_pos (by decide), show (1 : Int32).toNatClampNeg = 1 from rfl, hm1, z_cl (by omega), ef]
    by_cases k : nI d < e.2.2.2.2.1
    · rw [if_pos k, nI_1]
      obtain ⟨x, q', m', g1, g2, g3, g4, g5⟩ := ih (pre ++ [e]) q fu m hq hm4 hm1 (by rw [h, List.append_assoc]; rfl) (by omega)
      rw [List.length_append] at g1
      refine ⟨x, q', m', g1, g2, g3, ?_, g5⟩
      rw [g4, List.append_assoc]
      congr 1
      simp [zKeep, k]
    · rw [if_neg k, x10_dropsRequest hq hm4 hk, z_bind]
      obtain ⟨x, q', m', g1, g2, g3, g4, g5⟩ := ih pre (q - 1) fu (zDropR q pre.length m) (by omega) (zDropR_q _ _ _) (by rw [zDropR_o m (by omega) (by omega)]; exact hm1) (by
        rw [rM_sh hq hk, h, List.eraseIdx_append_of_length_le (Nat.le_refl _), Nat.sub_self]; rfl) (by omega)
      refine ⟨x, q', m', g1, g2, by omega, ?_, fun z hz h4 => by rw [g5 z hz h4, zDropR_o m hz h4]⟩
      rw [g4]
      simp [zKeep, k]
theorem op_dropCome {T d q : Nat} {rc rn : Int32} {ri rb rp rt rf rl m : Nat → Int32} (R : zRR q T rc rn ri rb rp rt rf rl m) (hm1 : m 1 = nI d) :
    ∃ x q' ri' rb' rp' rt' rf' rl' m', f_X8_dropRequestsThatHaveCome rc ri rb rp rt rf rl (nI d) = some (nI q', ri', rb', rp', rt', rf', rl') ∧ f_X10_mostIt_L2 jFU (nI 0) m = some (x, m') ∧ zRR q' T (nI q') rn ri' rb' rp' rt' rf' rl' m' ∧ (∀ z, (z < 80 ∨ 128 ≤ z) → z ≠ 4 → m' z = m z) := by
  obtain ⟨h1, h2, h3, h4, h5, h6, h7⟩ := R
  have same : (List.range q).map (rC ri rb rp rt rf rl) = (List.range q).map (rM m) := by
    apply List.map_congr_left
    intro j hj
    rw [List.mem_range] at hj
    have a := h6 j hj
    unfold rC rM
    rw [a.1, a.2.1, a.2.2.1, a.2.2.2.1, a.2.2.2.2.1, a.2.2.2.2.2]
  obtain ⟨x1, q1, ri', rb', rp', rt', rf', rl', g1, g2, g3⟩ := x8_dropCome (day := nI d) q ((List.range q).map (rC ri rb rp rt rf rl)) [] q jFU ri rb rp rt rf rl h1 (by simp) (by simp) (pz_jFU (by omega))
  obtain ⟨x2, q2, m', k1, k2, k3, k4, k5⟩ := x10_dropCome (d := d) ((List.range q).map (rM m)) [] q jFU m h1 h3 hm1 (by simp) (by rw [List.length_map, List.length_range]; exact pz_jFU (by omega))
  rw [List.append_nil, same] at g3
  rw [List.nil_append] at k4
  have eq : (List.range q1).map (rC ri' rb' rp' rt' rf' rl') = (List.range q2).map (rM m') := by rw [g3, k4]
  have q12 : q1 = q2 := by
    have := congrArg List.length eq
    simpa using this
  subst q12
  have at' : ∀ i, i < q1 → rC ri' rb' rp' rt' rf' rl' i = rM m' i := by
    intro i hi
    have := congrArg (fun l => l[i]?) eq
    simp only [List.getElem?_map, List.getElem?_range hi, Option.map_some] at this
    exact Option.some.inj this
  refine ⟨x2, q1, ri', rb', rp', rt', rf', rl', m', ?_, k1, ⟨by omega, rfl, k2, by rw [k5 3 (by omega) (by omega)]; exact h4, h5, fun k hk => ?_, fun k hk => ?_⟩, k5⟩
  · unfold f_X8_dropRequestsThatHaveCome f_X5_size
    rw [z_bind, h2, g1, z_bind]
  · have a := at' k hk
    unfold rC rM at a
    simp only [Prod.mk.injEq] at a
    exact ⟨a.1.symm, a.2.1.symm, a.2.2.1.symm, a.2.2.2.1.symm, a.2.2.2.2.1.symm, a.2.2.2.2.2.symm⟩
  · have mem : rC ri' rb' rp' rt' rf' rl' k ∈ ((List.range q).map (rM m)).filter (zKeep (nI d)) := by
      rw [← g3]
      exact List.mem_map.mpr ⟨k, List.mem_range.mpr hk, rfl⟩
    have mem2 := (List.mem_filter.mp mem).1
    rw [← same] at mem2
    obtain ⟨i, hi, e⟩ := List.mem_map.mp mem2
    rw [List.mem_range] at hi
    unfold rC at e
    simp only [Prod.mk.injEq] at e
    obtain ⟨w, p, dd, a1, a2, a3, a4, a5, a6⟩ := h7 i hi
    exact ⟨w, p, dd, a1, a2, a3, by rw [← e.2.1]; exact a4, by rw [← e.2.2.1]; exact a5, by rw [← e.2.2.2.2.2]; exact a6⟩
/-! the bookings of the grants together -/
theorem give_core {T n q0 d : Nat} {P W L B D : Nat → Nat} {hc : Int32} {hp hw hs hb hd ht : Nat → Int32} {rn : Int32} {sd slc sfc sbr sle : Int32} {ch : Nat → Nat} {gch gv : Nat → Int32} (hq0 : q0 ≤ 8) (hch : ∀ r, r < q0 → gch r = zO 12 (ch r)) (hgv : ∀ r, r < q0 → gv r = zO 12 (ch r)) (hcn : ∀ r, r < q0 → ch r < 12 → ch r < n) :
    ∀ (e r gone b fu fu2 : Nat) (ri rb rp rt rf rl : Nat → Int32) (bc : Int32) (bh bb bf bl : Nat → Int32) (sc sbc : Int32) (m : Nat → Int32), r + e = q0 → gone ≤ r → e < fu → e < fu2 →
      zRH n P W L B D T hc hp hw hs hb hd ht m → zRR (q0 - gone) T (nI (q0 - gone)) rn ri rb rp rt rf rl m → zRB b n T bc bh bb bf bl m → zRS d T sd sc sbc slc sfc sbr sle m →
      ∃ (gone' b' fu2' : Nat) (ri' rb' rp' rt' rf' rl' : Nat → Int32) (bc' : Int32) (bh' bb' bf' bl' : Nat → Int32) (sc' sbc' : Int32) (m' : Nat → Int32), fu2' = fu2 - e ∧ gone' ≤ q0 ∧
        f_X10_grantsGiven_L11 gv (nI q0) fu (nI r) (nI gone) m = some (nI q0, nI gone', m') ∧
        f_X8_grantTogether_L19 (nI q0) gch fu2 (nI r) (nI (r - gone)) (nI (q0 - gone)) ri rb rp rt rf rl bc bh bb bf bl sc sbc = f_X8_grantTogether_L19 (nI q0) gch fu2' (nI q0) (nI (q0 - gone')) (nI (q0 - gone')) ri' rb' rp' rt' rf' rl' bc' bh' bb' bf' bl' sc' sbc' ∧
        zRH n P W L B D T hc hp hw hs hb hd ht m' ∧ zRR (q0 - gone') T (nI (q0 - gone')) rn ri' rb' rp' rt' rf' rl' m' ∧ zRB b' n T bc' bh' bb' bf' bl' m' ∧ zRS d T sd sc' sbc' slc sfc sbr sle m' := by
  intro e
  induction e with
  | zero =>
    intro r gone b fu fu2 ri rb rp rt rf rl bc bh bb bf bl sc sbc m hr hg hf hf2 H RR RB RS
    obtain rfl : r = q0 := by omega
    obtain ⟨fu, rfl⟩ : ∃ g, fu = g + 1 := ⟨fu - 1, by omega⟩
    exact ⟨gone, b, fu2, ri, rb, rp, rt, rf, rl, bc, bh, bb, bf, bl, sc, sbc, m, by omega, hg, by rw [f_X10_grantsGiven_L11, if_pos (nI_le (Nat.le_refl _) (by omega))], rfl, H, RR, RB, RS⟩
  | succ e ih =>
    intro r gone b fu fu2 ri rb rp rt rf rl bc bh bb bf bl sc sbc m hr hg hf hf2 H RR RB RS
    obtain ⟨fu, rfl⟩ : ∃ g, fu = g + 1 := ⟨fu - 1, by omega⟩
    obtain ⟨fu2, rfl⟩ : ∃ g, fu2 = g + 1 := ⟨fu2 - 1, by omega⟩
    have hr' : r < q0 := by omega
    have jr : jin (nI r) 8 = true := by rw [z_jin (by omega)]; simp; omega
    have cf : f_X4_chosenFor (nI q0) gch (nI r) = some (zO 12 (ch r)) := by
      unfold f_X4_chosenFor
      rw [if_neg (nI_pos (by omega)), if_neg (nI_ge hr' (by omega)), if_pos jr, z_cl (by omega), hch r hr']
    rw [f_X10_grantsGiven_L11, if_neg (nI_ge hr' (by omega)), if_pos jr, f_X8_grantTogether_L19, if_neg (show ¬ (8 : Int32) ≤ nI r from nI_ge (b := 8) (by omega) (by omega)), cf, z_bind, z_cl (show r < 2147483648 by omega)]
    simp only [hgv r hr']
    by_cases c : ch r < 12
    · have ez : zO 12 (ch r) = nI (ch r) := by unfold zO; rw [if_pos c]
      have hn := hcn r hr' c
      have ne : ¬ nI (ch r) = -1 := by rw [z_m1 (by omega)]; exact id
      simp only [ez]
      rw [if_neg ne, if_neg ne, if_pos jr, pk_sub hg]
      obtain ⟨ri', rb', rp', rt', rf', rl', b', bc', bh', bb', bf', bl', sc', sbc', m', f1, f2, f3, f4, f5, f6⟩ := op_book H RR RB RS (show r - gone < q0 - gone by omega) hn
      rw [f1, f2, z_bind, z_bind]
      simp only [nI_1]
      obtain ⟨gone', b2, fu3, ri2, rb2, rp2, rt2, rf2, rl2, bc2, bh2, bb2, bf2, bl2, sc2, sbc2, m2, k0, k1, k2, k3, k4, k5, k6, k7⟩ := ih (r + 1) (gone + 1) b' fu fu2 ri' rb' rp' rt' rf' rl' bc' bh' bb' bf' bl' sc' sbc' m' (by omega) (by omega) (by omega) (by omega) f3 (by rw [show q0 - (gone + 1) = q0 - gone - 1 by omega]; exact f4) f5 f6
      refine ⟨gone', b2, fu3, ri2, rb2, rp2, rt2, rf2, rl2, bc2, bh2, bb2, bf2, bl2, sc2, sbc2, m2, by omega, k1, k2, ?_, k4, k5, k6, k7⟩
      rw [show r + 1 - (gone + 1) = r - gone by omega, show q0 - (gone + 1) = q0 - gone - 1 by omega] at k3
      exact k3
    · have ez : zO 12 (ch r) = -1 := by unfold zO; rw [if_neg c]
      simp only [ez]
      first | rw [if_pos rfl, if_pos rfl] | skip
      simp only [nI_1]
      obtain ⟨gone', b2, fu3, ri2, rb2, rp2, rt2, rf2, rl2, bc2, bh2, bb2, bf2, bl2, sc2, sbc2, m2, k0, k1, k2, k3, k4, k5, k6, k7⟩ := ih (r + 1) gone b fu fu2 ri rb rp rt rf rl bc bh bb bf bl sc sbc m (by omega) (by omega) (by omega) (by omega) H RR RB RS
      refine ⟨gone', b2, fu3, ri2, rb2, rp2, rt2, rf2, rl2, bc2, bh2, bb2, bf2, bl2, sc2, sbc2, m2, by omega, k1, k2, ?_, k4, k5, k6, k7⟩
      rw [show r + 1 - gone = r - gone + 1 by omega] at k3
      exact k3
theorem give_tail {q0 : Nat} {gch : Nat → Int32} {rc : Int32} {ri rb rp rt rf rl : Nat → Int32} {bc : Int32} {bh bb bf bl : Nat → Int32} {sc sbc : Int32} : ∀ (e r p fu : Nat), r + e = 8 → q0 ≤ r → e < fu → ∃ y z, f_X8_grantTogether_L19 (nI q0) gch fu (nI r) (nI p) rc ri rb rp rt rf rl bc bh bb bf bl sc sbc = some (y, z, rc, ri, rb, rp, rt, rf, rl, bc, bh, bb, bf, bl, sc, sbc) := by
  intro e
  induction e with
  | zero =>
    intro r p fu hr hq hf
    obtain rfl : r = 8 := by omega
    obtain ⟨fu, rfl⟩ : ∃ g, fu = g + 1 := ⟨fu - 1, by omega⟩
    exact ⟨nI 8, nI p, by rw [f_X8_grantTogether_L19, if_pos (by decide)]⟩
  | succ e ih =>
    intro r p fu hr hq hf
    obtain ⟨fu, rfl⟩ : ∃ g, fu = g + 1 := ⟨fu - 1, by omega⟩
    have cf : f_X4_chosenFor (nI q0) gch (nI r) = some (-1) := by
      unfold f_X4_chosenFor
      rw [if_neg (nI_pos (by omega)), if_pos (nI_le hq (by omega))]
    rw [f_X8_grantTogether_L19, if_neg (show ¬ (8 : Int32) ≤ nI r from nI_ge (b := 8) (by omega) (by omega)), cf, z_bind, if_pos rfl, nI_1, nI_1]
    exact ih (r + 1) (p + 1) fu (by omega) (by omega) (by omega)
theorem op_together {T : Nat} {hc : Int32} {hp hw hs hb hd ht : Nat → Int32} {rc rn : Int32} {ri rb rp rt rf rl : Nat → Int32} {bc : Int32} {bh bb bf bl : Nat → Int32} {sd sc sbc slc sfc sbr sle : Int32} {m : Nat → Int32}
    (R : zRel T hc hp hw hs hb hd ht rc rn ri rb rp rt rf rl bc bh bb bf bl sd sc sbc slc sfc sbr sle m) (gc : Int32) (gf gh gch : Nat → Int32) (gu : Int32) (fit giv : Nat → Int32) :
    ∃ j rc' ri' rb' rp' rt' rf' rl' bc' bh' bb' bf' bl' sc' sbc' gc' gf' gh' gch' gu' m' fit' giv', j < 1000000 ∧
      f_X8_grantTogether hc hp hw hs hd rc ri rb rp rt rf rl bc bh bb bf bl sd sc sbc gc gf gh gch gu = some (nI j, rc', ri', rb', rp', rt', rf', rl', bc', bh', bb', bf', bl', sc', sbc', gc', gf', gh', gch', gu') ∧
      f_X10_mostIt m fit giv = some (nI j, m', fit', giv') ∧ zRel T hc hp hw hs hb hd ht rc' rn ri' rb' rp' rt' rf' rl' bc' bh' bb' bf' bl' sd sc' sbc' slc sfc sbr sle m' := by
  obtain ⟨n, P, W, L, B, D, q, b, d, H, RR, RB, RS⟩ := R
  have sde := RS.2.1
  obtain ⟨x, q', ri1, rb1, rp1, rt1, rf1, rl1, m1, a1, a2, a3, a4⟩ := op_dropCome RR RS.2.2.1
  have H1 := zRH_kept H (m' := m1) (fun z hz => a4 z (by omega) (by omega))
  have B1 := zRB_kept RB (m' := m1) (fun z hz => a4 z (by omega) (by omega))
  have S1 := zRS_kept RS (m' := m1) (fun z hz => a4 z (by omega) (by omega))
  have n12 := H1.1
  have q8 := a3.1
  have b480 := B1.1
  have hm0 := H1.2.2.1
  have hm4 := a3.2.2.1
  obtain ⟨gf', e1, e2⟩ := x4_load gc gf hp hw hs hd rp1 rt1 rf1 rl1 bh bf bl n12 q8 b480
  obtain ⟨fit', e3, e4⟩ := x10_worksFitting fit H1 a3 B1
  have mk4 : ∀ r, r < q' → zMsk (fun h => zMay hp hw hs hd rp1 rt1 rf1 rl1 b bh bf bl r h) n < 4096 := fun r _ => zMsk_4096 _ n12
  have mkn : ∀ r h, r < q' → n ≤ h → (zMsk (fun h => zMay hp hw hs hd rp1 rt1 rf1 rl1 b bh bf bl r h) n).testBit h = false := by
    intro r h _ hh
    rw [zMsk_bit]
    have : ¬ h < n := by omega
    simp [this]
  obtain ⟨gh', gch', gu', e5, e6⟩ := x4_choose (mk := fun r => zMsk (fun h => zMay hp hw hs hd rp1 rt1 rf1 rl1 b bh bf bl r h) n) gh gch gu q8 e2 mk4
  -- the model's number
  have q256 := z_pow256 q8
  have n4096 : 2 ^ n - 1 < 4096 := by
    have : 2 ^ n ≤ 2 ^ 12 := Nat.pow_le_pow_right (by omega) n12
    have : 0 < 2 ^ n := Nat.two_pow_pos n
    omega
  obtain ⟨G, e7, e8⟩ := x10_most (f := 0) (mk := fun r => zMsk (fun h => zMay hp hw hs hd rp1 rt1 rf1 rl1 b bh bf bl r h) n) q8 hm4 e4 mk4 (R := 2 ^ q' - 1) (A := 2 ^ n - 1) (fun x => by rw [zOnes_bit]; simp) (by omega) n4096
  have e9 : zGf 0 q' (fun r => zMsk (fun h => zMay hp hw hs hd rp1 rt1 rf1 rl1 b bh bf bl r h) n) 4095 = G := zGf_eq (zMin_cong (fun k hk ⟨r, r1, r2⟩ => by
    have all1 : ∀ h, h < 12 → (4095 : Nat).testBit h = true := by decide
    rw [all1 k hk, zOnes_bit]
    rcases Nat.lt_or_ge k n with z | z
    · simp [z]
    · rw [mkn r k r1 z] at r2; cases r2) e8)
  obtain ⟨x4, x3, gv, f1, f2⟩ := x10_outer (mk := fun r => zMsk (fun h => zMay hp hw hs hd rp1 rt1 rf1 rl1 b bh bf bl r h) n) giv q8 n12 hm0 hm4 e4 mk4 mkn
  rw [e9] at f1 f2 e5 e6
  have inv := zCh_inv (mk := fun r => zMsk (fun h => zMay hp hw hs hd rp1 rt1 rf1 rl1 b bh bf bl r h) n) q8 mk4 e9.symm q' (Nat.le_refl _)
  obtain ⟨gone', b2, fu3, ri2, rb2, rp2, rt2, rf2, rl2, bc2, bh2, bb2, bf2, bl2, sc2, sbc2, m2, k0, k1, k2, k3, k4, k5, k6, k7⟩ := give_core q8 e6 f2 (fun r hr hc => by
    rcases Nat.lt_or_ge ((zCh G q' (fun r => zMsk (fun h => zMay hp hw hs hd rp1 rt1 rf1 rl1 b bh bf bl r h) n) q').2.2 r) n with z | z
    · exact z
    · have := inv.2.2.2.2 r hr hc
      rw [mkn r _ hr z] at this; cases this) q' 0 0 b jFU jFU ri1 rb1 rp1 rt1 rf1 rl1 bc bh bb bf bl sc sbc m1 (by omega) (by omega) (pz_jFU (by omega)) (pz_jFU (by omega)) H1 (by rw [Nat.sub_zero]; exact a3) B1 S1
  obtain ⟨y, z, k8⟩ := give_tail (q0 := q') (gch := gch') (rc := nI (q' - gone')) (ri := ri2) (rb := rb2) (rp := rp2) (rt := rt2) (rf := rf2) (rl := rl2) (bc := bc2) (bh := bh2) (bb := bb2) (bf := bf2) (bl := bl2) (sc := sc2) (sbc := sbc2) (8 - q') q' (q' - gone') fu3 (by omega) (Nat.le_refl _) (by rw [k0]; show 8 - q' < jFU - q'; unfold jFU; omega)
  simp only [Nat.sub_zero] at k3
  refine ⟨(zCh G q' (fun r => zMsk (fun h => zMay hp hw hs hd rp1 rt1 rf1 rl1 b bh bf bl r h) n) q').1, nI (q' - gone'), ri2, rb2, rp2, rt2, rf2, rl2, bc2, bh2, bb2, bf2, bl2, sc2, sbc2, nI q', gf', gh', gch', gu', m2, fit', gv, by have := inv.2.2.1; omega, ?_, ?_, n, P, W, L, B, D, q' - gone', b2, d, k4, k5, k6, k7⟩
  · unfold f_X8_grantTogether
    rw [sde, a1, z_bind]
    dsimp only
    rw [H1.2.1, B1.2.1, e1, z_bind]
    dsimp only
    rw [e5, z_bind]
    dsimp only
    rw [B1.2.1] at k3
    rw [show f_X8_grantTogether_L19 (nI q') gch' jFU 0 0 = f_X8_grantTogether_L19 (nI q') gch' jFU (nI 0) (nI 0) from rfl, k3, k8, z_bind]
  · unfold f_X10_mostIt f_X10_mostNow f_X10_grantsGiven
    rw [show f_X10_mostIt_L2 jFU 0 m = f_X10_mostIt_L2 jFU (nI 0) m from rfl, a2, z_bind]
    dsimp only
    rw [e3, z_bind, if_pos (by decide), if_pos (by decide), show (4 : Int32).toNatClampNeg = 4 from rfl, show (0 : Int32).toNatClampNeg = 0 from rfl, hm4, hm0, z_ones q' (by omega), z_ones n (by omega), e7, z_bind, z_bind, if_pos (by decide), if_pos (by decide)]
    dsimp only
    rw [show f_X10_mostIt_L80 m1 fit' (nI G) jFU 0 0 (nI (2 ^ q' - 1)) (nI (2 ^ n - 1)) giv = f_X10_mostIt_L80 m1 fit' (nI G) jFU (nI 0) (nI 0) (nI (2 ^ q' - 1)) (nI (2 ^ n - 1)) giv from rfl, f1, z_bind, if_pos (by decide)]
    dsimp only
    rw [show f_X10_grantsGiven_L11 gv (nI q') jFU 0 0 m1 = f_X10_grantsGiven_L11 gv (nI q') jFU (nI 0) (nI 0) m1 from rfl, k2, z_bind, z_bind]

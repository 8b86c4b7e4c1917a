/-! THE LAW'S LOOP -/
def lRun (xs : Nat → Int32) (L : Nat) : Nat → Nat → lS → Option lS
  | 0, _, _ => none
  | n + 1, i, s => if i + 6 ≤ L then Option.bind (lTurn (xs i &&& 63) (xs (i + 1)) (xs (i + 2)) (xs (i + 3)) (xs (i + 4)) (xs (i + 5)) s) (lRun xs L n (i + 6)) else some s
theorem l_gt {i L : Nat} (hi : i ≤ 4000) (hL : L ≤ 3072) (h : ¬ i + 6 ≤ L) : nI L - 6 < nI i := by
  by_cases h6 : 6 ≤ L
  · have e : nI L - 6 = nI (L - 6) := by
      have e1 : nI (L - 6) + nI 6 = nI L := by rw [nI_add, Nat.sub_add_cancel h6]
      rw [← e1]; exact Int32.add_sub_cancel _ _
    rw [e]; exact nI_lt (by omega) (by omega)
  · rw [Int32.lt_iff_toInt_lt, nI_toInt (n := i) (by omega)]
    have e : ∀ k : Fin 6, (nI k.val - 6).toInt < 0 := by decide
    have e2 := e ⟨L, by omega⟩
    have e3 : (nI L - 6).toInt < 0 := e2
    omega
theorem l_ngt {i L : Nat} (hL : L ≤ 3072) (h : i + 6 ≤ L) : ¬ nI L - 6 < nI i := by
  have e : nI L - 6 = nI (L - 6) := by
    have e1 : nI (L - 6) + nI 6 = nI L := by rw [nI_add, Nat.sub_add_cancel (by omega)]
    rw [← e1]; exact Int32.add_sub_cancel _ _
  rw [e]; exact nI_nlt (by omega) (by omega)
set_option maxHeartbeats 4000000 in
set_option maxRecDepth 100000 in
theorem k_lRun {l : Launch} {D : va_G} {t : Nat → ClassId} {ad : Nat → Nat} {o oS oN oY oG oC oP oB oV oL oM bS L : Nat} {xs : Nat → Int32} (hl : l.stackTraces = false) {X : jX} (hX : jOK X l D (jT t) cL_law RL (some .boolean) room_1 9) (hscr : jXz X (jScr bS L xs)) (hL : L ≤ 3072) {s9 : lS}
    (kk : ∀ (i a b z m : Nat) (f : Nat → Int32) (ml : Int32), a ≤ 603072 → b ≤ 7207018 → J X a b (lW t ad o oS oN oY oG oC oP oB oV oL oM s9 z m f ml) 2893 [(0, .ref bS), (1, .ref (ad o)), (2, .ref (ad oV)), (3, .ref (ad oL)), (4, .ref (ad oM)), (5, .int (nI i))] [.int 1]) :
    ∀ (n i a b : Nat) (s : lS) (q_z q_m : Nat) (q_f : Nat → Int32) (q_ml : Int32), ztSb (s.2.2.2.2.2.2.2.1) q_m q_f → i ≤ L + 6 → a + 20 * n ≤ 603072 → b + 2500 * n ≤ 7207018 → lRun xs L n i s = some s9 → J X a b (lW t ad o oS oN oY oG oC oP oB oV oL oM s q_z q_m q_f q_ml) 28 [(0, .ref bS), (1, .ref (ad o)), (2, .ref (ad oV)), (3, .ref (ad oL)), (4, .ref (ad oM)), (5, .int (nI i))] [] := by
  intro n
  induction n with
  | zero => intro i a b s q_z q_m q_f q_ml _ _ _ _ hf; cases hf
  | succ n ih =>
    intro i a b s q_z q_m q_f q_ml q_hs hi ha hb hf
    unfold lRun at hf
    refine j_iload hX dL_law_28 5 rfl ?_
    refine j_aload_n hX dL_law_30 rfl 0 rfl ?_
    refine j_slen hX hscr dL_law_31 ?_
    refine j_bipush hX 6 dL_law_32 (by decide) ?_
    refine j_isub hX dL_law_34 ?_
    refine j_icmp_gt (α := Unit) (F := some ()) (G := some ()) (o := some ()) hX 2892 dL_law_35 (by decide) (by rw [ite_self]) (fun c _ => ?_) (fun c _ => ?_)
    · have h : ¬ i + 6 ≤ L := fun h => l_ngt hL h c
      have hf9 := Option.some.inj (jifn hf h)
      subst hf9
      refine j_iconst hX 1 dL_law_2892 (by decide) ?_
      exact kk i a b q_z q_m q_f q_ml (by omega) (by omega)
    · have h : i + 6 ≤ L := by
        by_cases h : i + 6 ≤ L
        · exact h
        · exact absurd (l_gt (by omega) hL h) c
      replace hf := jifp hf h
      obtain ⟨s1, h1, hf⟩ := jbind hf
      refine j_aload_n hX dL_law_38 rfl 0 rfl ?_
      refine j_iload hX dL_law_39 5 rfl ?_
      refine j_sld hX hscr (k := 0) rfl (by omega) (by omega) dL_law_41 ?_
      refine j_bipush hX 63 dL_law_42 (by decide) ?_
      refine j_iand hX dL_law_44 ?_
      refine k_lTurn hl hX hscr h hL ⟨by omega, by omega⟩ s q_z q_m q_f q_ml q_hs h1 (fun z m f ml hs => ?_)
      refine j_iinc hX (nI (i + 6)) [(5, .int (nI (i + 6))), (0, .ref bS), (1, .ref (ad o)), (2, .ref (ad oV)), (3, .ref (ad oL)), (4, .ref (ad oM))] dL_law_2886 5 rfl (by rw [← nI_add]; rfl) (by decide) rfl ?_
      refine j_goto hX 28 dL_law_2889 (by decide) ?_
      refine j_sub hX [(0, .ref bS), (1, .ref (ad o)), (2, .ref (ad oV)), (3, .ref (ad oL)), (4, .ref (ad oM)), (5, .int (nI (i + 6)))] [1, 2, 3, 4, 5, 0] rfl ?_
      exact ih (i + 6) (a + 20) (b + 2500) s1 z m f ml hs (by omega) (by omega) (by omega) hf

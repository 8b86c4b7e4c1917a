-- HammerDepot$Script readForm (I)Z
def f_X6_readForm_L12 (p_text : Nat → Int32) (p_length : Int32) (p_count : Int32) (x2 : Nat) : Nat → Int32 → Int32 → (Nat → Int32) → Int32 → Option ((Int32 × Int32 × (Nat → Int32) × Int32) ⊕ (Int32 × Int32 × (Nat → Int32) × Int32))
  | 0, _, _, _, _ => none
  | jn + 1, x3, p_at, p_arguments, p_argumentCount =>
    if (nI (jFl x2)) ≤ x3 then
      some (.inr (x3, p_at, p_arguments, p_argumentCount))
    else
      if jin x3 (jFl x2) = true then
        Option.bind (f_X6_readPart p_text p_length p_at p_count p_arguments p_argumentCount (jFc x2 (x3).toNatClampNeg)) (fun u1 =>
          if u1.1 = 0 then
            some (.inl (0, u1.2.1, u1.2.2.1, u1.2.2.2))
          else
            f_X6_readForm_L12 p_text p_length p_count x2 jn (x3 + 1) u1.2.1 u1.2.2.1 u1.2.2.2)
      else none
def f_X6_readForm (p_text : Nat → Int32) (p_length : Int32) (p_at : Int32) (p_count : Int32) (p_arguments : Nat → Int32) (p_argumentCount : Int32) (a0 : Int32) : Option (Int32 × Int32 × (Nat → Int32) × Int32) :=
  Option.bind (f_X6_readForm_L12 p_text p_length p_count (jKd a0) jFU 0 p_at p_arguments 0) (fun o3 => Sum.elim (fun r => some r) (fun s4 =>
    if a0 = 9 then
      Option.bind (f_X6_readOptionalDays p_text p_length s4.2.1 p_count s4.2.2.1 s4.2.2.2) (fun u6 =>
        if u6.1 = 0 then
          some (0, u6.2.1, u6.2.2.1, u6.2.2.2)
        else
          some (1, u6.2.1, u6.2.2.1, u6.2.2.2))
    else
      some (1, s4.2.1, s4.2.2.1, s4.2.2.2)) o3)
set_option maxHeartbeats 4000000 in
set_option maxRecDepth 100000 in
theorem k_X6_readForm_L12 {l : Launch} {D : va_G} {t : Nat → ClassId} {ad : Nat → Nat} {o : Nat} (p_text : Nat → Int32) (p_length : Int32) (p_count : Int32) (x2 : Nat) (p_kinds : Nat → Int32) (x1 : Int32) {X : jX} (hX : jOK X l D (jT t) cX6_readForm RX6 (some FieldType.boolean) { frames := 4, cells := 0, slots := 0, locals := 85 } 4) {fa : Nat → Nat} (hFa : jXz X (jFm fa)) {PP : Option Value → va_W → Prop} (hE : jEnd X PP 0 0) :
    ∀ (jn : Nat) (x3 : Int32) (p_at : Int32) (p_arguments : Nat → Int32) (p_argumentCount : Int32) (u : (Int32 × Int32 × (Nat → Int32) × Int32) ⊕ (Int32 × Int32 × (Nat → Int32) × Int32)) (hf : f_X6_readForm_L12 p_text p_length p_count x2 jn x3 p_at p_arguments p_argumentCount = some u) (kx : ∀ s : Int32 × Int32 × (Nat → Int32) × Int32, u = .inr s → J X 0 0 (wP t ad o p_text p_length s.2.1 p_count p_kinds s.2.2.1 s.2.2.2) 40 [(3, .int s.1), (2, .ref (fa x2)), (0, .ref (ad o)), (1, .int x1)] []) (kr : ∀ r : Int32 × Int32 × (Nat → Int32) × Int32, u = .inl r → PP (some (.int r.1)) (wP t ad o p_text p_length r.2.1 p_count p_kinds r.2.2.1 r.2.2.2)), J X 0 0 (wP t ad o p_text p_length p_at p_count p_kinds p_arguments p_argumentCount) 12 [(3, .int x3), (2, .ref (fa x2)), (0, .ref (ad o)), (1, .int x1)] [] := by
  intro jn
  induction jn with
  | zero => intro x3 p_at p_arguments p_argumentCount u hf; cases (show (none : Option ((Int32 × Int32 × (Nat → Int32) × Int32) ⊕ (Int32 × Int32 × (Nat → Int32) × Int32))) = some u from hf)
  | succ jn ih =>
    intro x3 p_at p_arguments p_argumentCount u hf kx kr
    unfold f_X6_readForm_L12 at hf
    refine j_iload_n hX dX6_readForm_12 rfl 0 rfl ?_
    refine j_aload_n hX dX6_readForm_13 rfl 1 rfl ?_
    refine j_flen hX hFa q1350 dX6_readForm_14 (Nat.le_of_ble_eq_true rfl) (by decide) ⟨Nat.le_refl _, Nat.le_refl _⟩ ?_
    refine j_icmp_ge hX 40 dX6_readForm_17 (by decide) hf (fun c17 hf => ?_) (fun c17 hf => ?_)
    · cases hf
      exact kx _ rfl
    · refine j_aload_n hX dX6_readForm_20 rfl 2 rfl ?_
      refine j_aload_n hX dX6_readForm_21 rfl 1 rfl ?_
      refine j_iload_n hX dX6_readForm_22 rfl 0 rfl ?_
      refine j_fch hX hFa q1351 dX6_readForm_23 (Nat.le_of_ble_eq_true rfl) (by decide) ⟨Nat.le_refl _, Nat.le_refl _⟩ hf (fun c23 hf => ?_)
      obtain ⟨u1, h2, hf⟩ := jbind hf
      refine j_callV (st := []) hX (k_X6_readPart (l := l) (D := D) (t := t) (ad := ad) (o := o) p_text p_length p_at p_count p_kinds p_arguments p_argumentCount (jFc x2 (x3).toNatClampNeg) u1 h2) q1366 q1367 q1942 q10 q1368 (n9 := 1) rfl ⟨by decide +kernel, by decide +kernel⟩ 0 rfl rfl rfl dX6_readForm_26 (Nat.le_of_ble_eq_true rfl) ⟨Nat.le_refl _, Nat.le_refl _⟩ (fun w : va_W => w) jFr_id rfl rfl (fun v w hvw => ?_)
      obtain ⟨rfl, rfl⟩ := hvw
      change J X 0 0 (wP t ad o p_text p_length u1.2.1 p_count p_kinds u1.2.2.1 u1.2.2.2) 29 [(3, .int x3), (2, .ref (fa x2)), (0, .ref (ad o)), (1, .int x1)] [.int u1.1]
      refine j_if_ne hX 34 dX6_readForm_29 (by decide) hf (fun c29 hf => ?_) (fun c29 hf => ?_)
      · refine j_iinc hX (x3 + 1) [(3, .int (x3 + 1)), (2, .ref (fa x2)), (0, .ref (ad o)), (1, .int x1)] dX6_readForm_34 0 rfl rfl (by decide) rfl ?_
        refine j_goto hX 12 dX6_readForm_37 (by decide) ?_
        exact ih (x3 + 1) u1.2.1 u1.2.2.1 u1.2.2.2 u hf kx kr
      · refine j_iconst hX 0 dX6_readForm_32 (by decide) ?_
        cases hf
        exact j_zret hX hE rfl dX6_readForm_33 (Nat.le_refl _) (Nat.le_refl _) (kr _ rfl)
set_option maxHeartbeats 4000000 in
set_option maxRecDepth 100000 in
theorem k_X6_readForm {l : Launch} {D : va_G} {t : Nat → ClassId} {ad : Nat → Nat} {o : Nat} (p_text : Nat → Int32) (p_length : Int32) (p_at : Int32) (p_count : Int32) (p_kinds : Nat → Int32) (p_arguments : Nat → Int32) (p_argumentCount : Int32) (a0 : Int32) (u : Int32 × Int32 × (Nat → Int32) × Int32) (hf : f_X6_readForm p_text p_length p_at p_count p_arguments p_argumentCount a0 = some u) : cm l D (jT t) yX6_readForm cX6_readForm 4 (some FieldType.boolean) { frames := 4, cells := 0, slots := 0, locals := 85 } [.ref (ad o), .int a0] (wP t ad o p_text p_length p_at p_count p_kinds p_arguments p_argumentCount) (fun v w => v = (some (.int u.1)) ∧ w = wP t ad o p_text p_length u.2.1 p_count p_kinds u.2.2.1 u.2.2.2) := by
  refine cm_of RX6 rfl (by decide +kernel) (Nat.le_of_ble_eq_true rfl) (fun X hX hE => ?_)
  change J X 0 0 (wP t ad o p_text p_length p_at p_count p_kinds p_arguments p_argumentCount) 0 [(0, .ref (ad o)), (1, .int a0)] []
  obtain ⟨fa, hFa⟩ := j_forms hX
  unfold f_X6_readForm at hf
  refine j_aload_n hX dX6_readForm_0 rfl 0 rfl ?_
  refine j_iconst hX 0 dX6_readForm_1 (by decide) ?_
  refine j_put hX (wP t ad o p_text p_length p_at p_count p_kinds p_arguments 0) tyX6 dX6_readForm_2 inX6 tyX6_ok nmX6 6 q156 0 rfl rfl (by decide) rfl rfl rfl rfl rfl (Nat.le_of_ble_eq_true rfl) rfl ?_
  refine j_iload_n hX dX6_readForm_5 rfl 1 rfl ?_
  refine j_fof hX hFa q1347 dX6_readForm_6 (Nat.le_of_ble_eq_true rfl) (by decide) ⟨Nat.le_refl _, Nat.le_refl _⟩ ?_
  refine j_astore_n hX [(2, .ref (fa (jKd a0))), (0, .ref (ad o)), (1, .int a0)] dX6_readForm_9 rfl (by decide) rfl ?_
  refine j_iconst hX 0 dX6_readForm_10 (by decide) ?_
  refine j_istore_n hX [(3, .int 0), (2, .ref (fa (jKd a0))), (0, .ref (ad o)), (1, .int a0)] dX6_readForm_11 rfl (by decide) rfl ?_
  obtain ⟨o3, h5, hf⟩ := jbind hf
  refine k_X6_readForm_L12 (ad := ad) p_text p_length p_count (jKd a0) p_kinds a0 hX hFa hE jFU 0 p_at p_arguments 0 o3 h5 (fun s4 es4 => ?_) (fun r er => ?_)
  · subst es4
    have hf := jsum_r hf
    refine j_iload_n hX dX6_readForm_40 rfl 3 rfl ?_
    refine j_bipush hX 9 dX6_readForm_41 (by decide) ?_
    refine j_icmp_ne hX 53 dX6_readForm_43 (by decide) hf (fun c43 hf => ?_) (fun c43 hf => ?_)
    · refine j_iconst hX 1 dX6_readForm_53 (by decide) ?_
      refine j_goto hX 58 dX6_readForm_54 (by decide) ?_
      cases hf
      exact j_zret hX hE rfl dX6_readForm_58 (Nat.le_refl _) (Nat.le_refl _) ⟨rfl, rfl⟩
    · refine j_aload_n hX dX6_readForm_46 rfl 2 rfl ?_
      obtain ⟨u6, h7, hf⟩ := jbind hf
      refine j_callV (st := []) hX (k_X6_readOptionalDays (l := l) (D := D) (t := t) (ad := ad) (o := o) p_text p_length s4.2.1 p_count p_kinds s4.2.2.1 s4.2.2.2  u6 h7) q1381 q1382 q1947 q10 q1383 (n9 := 0) rfl ⟨by decide +kernel, by decide +kernel⟩ 0 rfl rfl rfl dX6_readForm_47 (Nat.le_of_ble_eq_true rfl) ⟨Nat.le_refl _, Nat.le_refl _⟩ (fun w : va_W => w) jFr_id rfl rfl (fun v w hvw => ?_)
      obtain ⟨rfl, rfl⟩ := hvw
      change J X 0 0 (wP t ad o p_text p_length u6.2.1 p_count p_kinds u6.2.2.1 u6.2.2.2) 50 [(3, .int s4.1), (2, .ref (fa (jKd a0))), (0, .ref (ad o)), (1, .int a0)] [.int u6.1]
      refine j_if_eq hX 57 dX6_readForm_50 (by decide) hf (fun c50 hf => ?_) (fun c50 hf => ?_)
      · refine j_iconst hX 0 dX6_readForm_57 (by decide) ?_
        cases hf
        exact j_zret hX hE rfl dX6_readForm_58 (Nat.le_refl _) (Nat.le_refl _) ⟨rfl, rfl⟩
      · refine j_iconst hX 1 dX6_readForm_53 (by decide) ?_
        refine j_goto hX 58 dX6_readForm_54 (by decide) ?_
        cases hf
        exact j_zret hX hE rfl dX6_readForm_58 (Nat.le_refl _) (Nat.le_refl _) ⟨rfl, rfl⟩
  · subst er
    cases hf
    exact ⟨rfl, rfl⟩
-- HammerDepot$Script readCommand ()Z
def f_X6_readCommand_L12 (p_text : Nat → Int32) (p_length : Int32) (p_count : Int32) (x1 : Int32) : Nat → Int32 → Int32 → Int32 → (Nat → Int32) → (Nat → Int32) → Int32 → Option ((Int32 × Int32 × (Nat → Int32) × (Nat → Int32) × Int32) ⊕ (Int32 × Int32 × Int32 × (Nat → Int32) × (Nat → Int32) × Int32))
  | 0, _, _, _, _, _, _ => none
  | jn + 1, x3, x2, p_at, p_kinds, p_arguments, p_argumentCount =>
    if 10 ≤ x3 then
      some (.inr (x3, x2, p_at, p_kinds, p_arguments, p_argumentCount))
    else
      if p_count < 0 then
        f_X6_readCommand_L12 p_text p_length p_count x1 jn (x3 + 1) (jmax x2 x1) x1 p_kinds p_arguments p_argumentCount
      else
        if 15 ≤ p_count then
          f_X6_readCommand_L12 p_text p_length p_count x1 jn (x3 + 1) (jmax x2 x1) x1 p_kinds p_arguments p_argumentCount
        else
          Option.bind (f_X6_readForm p_text p_length x1 p_count p_arguments p_argumentCount x3) (fun u1 =>
            if u1.1 = 0 then
              f_X6_readCommand_L12 p_text p_length p_count x1 jn (x3 + 1) (jmax x2 u1.2.1) u1.2.1 p_kinds u1.2.2.1 u1.2.2.2
            else
              if jin p_count 15 = true then
                some (.inl (1, u1.2.1, upd p_kinds (p_count).toNatClampNeg x3, u1.2.2.1, u1.2.2.2))
              else none)
def f_X6_readCommand (p_text : Nat → Int32) (p_length : Int32) (p_at : Int32) (p_count : Int32) (p_kinds : Nat → Int32) (p_arguments : Nat → Int32) (p_argumentCount : Int32) : Option (Int32 × Int32 × (Nat → Int32) × (Nat → Int32) × Int32) :=
  Option.bind (f_X6_readCommand_L12 p_text p_length p_count p_at jFU 0 p_at p_at p_kinds p_arguments p_argumentCount) (fun o3 => Sum.elim (fun r => some r) (fun s4 =>
    some (0, s4.2.1, s4.2.2.2.1, s4.2.2.2.2.1, s4.2.2.2.2.2)) o3)
set_option maxHeartbeats 4000000 in
set_option maxRecDepth 100000 in
theorem k_X6_readCommand_L12 {l : Launch} {D : va_G} {t : Nat → ClassId} {ad : Nat → Nat} {o : Nat} (p_text : Nat → Int32) (p_length : Int32) (p_count : Int32) (x1 : Int32)  {X : jX} (hX : jOK X l D (jT t) cX6_readCommand RX6 (some FieldType.boolean) { frames := 5, cells := 0, slots := 0, locals := 108 } 4) {PP : Option Value → va_W → Prop} (hE : jEnd X PP 0 0) :
    ∀ (jn : Nat) (x3 : Int32) (x2 : Int32) (p_at : Int32) (p_kinds : Nat → Int32) (p_arguments : Nat → Int32) (p_argumentCount : Int32) (u : (Int32 × Int32 × (Nat → Int32) × (Nat → Int32) × Int32) ⊕ (Int32 × Int32 × Int32 × (Nat → Int32) × (Nat → Int32) × Int32)) (hf : f_X6_readCommand_L12 p_text p_length p_count x1 jn x3 x2 p_at p_kinds p_arguments p_argumentCount = some u) (kx : ∀ s : Int32 × Int32 × Int32 × (Nat → Int32) × (Nat → Int32) × Int32, u = .inr s → J X 0 0 (wP t ad o p_text p_length s.2.2.1 p_count s.2.2.2.1 s.2.2.2.2.1 s.2.2.2.2.2) 74 [(3, .int s.1), (2, .int s.2.1), (1, .int x1), (0, .ref (ad o))] []) (kr : ∀ r : Int32 × Int32 × (Nat → Int32) × (Nat → Int32) × Int32, u = .inl r → PP (some (.int r.1)) (wP t ad o p_text p_length r.2.1 p_count r.2.2.1 r.2.2.2.1 r.2.2.2.2)), J X 0 0 (wP t ad o p_text p_length p_at p_count p_kinds p_arguments p_argumentCount) 12 [(3, .int x3), (2, .int x2), (1, .int x1), (0, .ref (ad o))] [] := by
  intro jn
  induction jn with
  | zero => intro x3 x2 p_at p_kinds p_arguments p_argumentCount u hf; cases (show (none : Option ((Int32 × Int32 × (Nat → Int32) × (Nat → Int32) × Int32) ⊕ (Int32 × Int32 × Int32 × (Nat → Int32) × (Nat → Int32) × Int32))) = some u from hf)
  | succ jn ih =>
    intro x3 x2 p_at p_kinds p_arguments p_argumentCount u hf kx kr
    unfold f_X6_readCommand_L12 at hf
    refine j_iload_n hX dX6_readCommand_12 rfl 0 rfl ?_
    refine j_bipush hX 10 dX6_readCommand_13 (by decide) ?_
    refine j_icmp_ge hX 74 dX6_readCommand_15 (by decide) hf (fun c15 hf => ?_) (fun c15 hf => ?_)
    · cases hf
      exact kx _ rfl
    · refine j_aload_n hX dX6_readCommand_18 rfl 3 rfl ?_
      refine j_iload_n hX dX6_readCommand_19 rfl 2 rfl ?_
      refine j_put hX (wP t ad o p_text p_length x1 p_count p_kinds p_arguments p_argumentCount) tyX6 dX6_readCommand_20 inX6 tyX6_ok nmX6 2 q152 0 rfl rfl (by decide) rfl rfl rfl rfl rfl (Nat.le_of_ble_eq_true rfl) rfl ?_
      refine j_aload_n hX dX6_readCommand_23 rfl 3 rfl ?_
      refine j_get hX dX6_readCommand_24 inX6 3 q153 0 rfl rfl (by decide) rfl rfl ?_
      refine j_if_lt hX 59 dX6_readCommand_27 (by decide) hf (fun c27 hf => ?_) (fun c27 hf => ?_)
      · refine j_iload_n hX dX6_readCommand_59 rfl 1 rfl ?_
        refine j_aload_n hX dX6_readCommand_60 rfl 3 rfl ?_
        refine j_get hX dX6_readCommand_61 inX6 2 q152 0 rfl rfl (by decide) rfl rfl ?_
        refine j_mmax hX q1384 dX6_readCommand_64 (Nat.le_of_ble_eq_true rfl) (by decide) ⟨Nat.le_refl _, Nat.le_refl _⟩ ?_
        refine j_istore_n hX [(2, .int (jmax x2 x1)), (3, .int x3), (1, .int x1), (0, .ref (ad o))] dX6_readCommand_67 rfl (by decide) rfl ?_
        refine j_iinc hX (x3 + 1) [(3, .int (x3 + 1)), (2, .int (jmax x2 x1)), (1, .int x1), (0, .ref (ad o))] dX6_readCommand_68 1 rfl rfl (by decide) rfl ?_
        refine j_goto hX 12 dX6_readCommand_71 (by decide) ?_
        exact ih (x3 + 1) (jmax x2 x1) x1 p_kinds p_arguments p_argumentCount u hf kx kr
      · refine j_aload_n hX dX6_readCommand_30 rfl 3 rfl ?_
        refine j_get hX dX6_readCommand_31 inX6 3 q153 0 rfl rfl (by decide) rfl rfl ?_
        refine j_bipush hX 15 dX6_readCommand_34 (by decide) ?_
        refine j_icmp_ge hX 59 dX6_readCommand_36 (by decide) hf (fun c36 hf => ?_) (fun c36 hf => ?_)
        · refine j_iload_n hX dX6_readCommand_59 rfl 1 rfl ?_
          refine j_aload_n hX dX6_readCommand_60 rfl 3 rfl ?_
          refine j_get hX dX6_readCommand_61 inX6 2 q152 0 rfl rfl (by decide) rfl rfl ?_
          refine j_mmax hX q1384 dX6_readCommand_64 (Nat.le_of_ble_eq_true rfl) (by decide) ⟨Nat.le_refl _, Nat.le_refl _⟩ ?_
          refine j_istore_n hX [(2, .int (jmax x2 x1)), (3, .int x3), (1, .int x1), (0, .ref (ad o))] dX6_readCommand_67 rfl (by decide) rfl ?_
          refine j_iinc hX (x3 + 1) [(3, .int (x3 + 1)), (2, .int (jmax x2 x1)), (1, .int x1), (0, .ref (ad o))] dX6_readCommand_68 1 rfl rfl (by decide) rfl ?_
          refine j_goto hX 12 dX6_readCommand_71 (by decide) ?_
          exact ih (x3 + 1) (jmax x2 x1) x1 p_kinds p_arguments p_argumentCount u hf kx kr
        · refine j_aload_n hX dX6_readCommand_39 rfl 3 rfl ?_
          refine j_iload_n hX dX6_readCommand_40 rfl 0 rfl ?_
          obtain ⟨u1, h2, hf⟩ := jbind hf
          refine j_callV (st := []) hX (k_X6_readForm (l := l) (D := D) (t := t) (ad := ad) (o := o) p_text p_length x1 p_count p_kinds p_arguments p_argumentCount x3 u1 h2) q1344 q1345 q1941 q10 q1346 (n9 := 1) rfl ⟨by decide +kernel, by decide +kernel⟩ 0 rfl rfl rfl dX6_readCommand_41 (Nat.le_of_ble_eq_true rfl) ⟨Nat.le_refl _, Nat.le_refl _⟩ (fun w : va_W => w) jFr_id rfl rfl (fun v w hvw => ?_)
          obtain ⟨rfl, rfl⟩ := hvw
          change J X 0 0 (wP t ad o p_text p_length u1.2.1 p_count p_kinds u1.2.2.1 u1.2.2.2) 44 [(3, .int x3), (2, .int x2), (1, .int x1), (0, .ref (ad o))] [.int u1.1]
          refine j_if_eq hX 59 dX6_readCommand_44 (by decide) hf (fun c44 hf => ?_) (fun c44 hf => ?_)
          · refine j_iload_n hX dX6_readCommand_59 rfl 1 rfl ?_
            refine j_aload_n hX dX6_readCommand_60 rfl 3 rfl ?_
            refine j_get hX dX6_readCommand_61 inX6 2 q152 0 rfl rfl (by decide) rfl rfl ?_
            refine j_mmax hX q1384 dX6_readCommand_64 (Nat.le_of_ble_eq_true rfl) (by decide) ⟨Nat.le_refl _, Nat.le_refl _⟩ ?_
            refine j_istore_n hX [(2, .int (jmax x2 u1.2.1)), (3, .int x3), (1, .int x1), (0, .ref (ad o))] dX6_readCommand_67 rfl (by decide) rfl ?_
            refine j_iinc hX (x3 + 1) [(3, .int (x3 + 1)), (2, .int (jmax x2 u1.2.1)), (1, .int x1), (0, .ref (ad o))] dX6_readCommand_68 1 rfl rfl (by decide) rfl ?_
            refine j_goto hX 12 dX6_readCommand_71 (by decide) ?_
            exact ih (x3 + 1) (jmax x2 u1.2.1) u1.2.1 p_kinds u1.2.2.1 u1.2.2.2 u hf kx kr
          · refine j_aload_n hX dX6_readCommand_47 rfl 3 rfl ?_
            refine j_get hX dX6_readCommand_48 inX6 4 q154 0 rfl rfl (by decide) rfl rfl ?_
            refine j_aload_n hX dX6_readCommand_51 rfl 3 rfl ?_
            refine j_get hX dX6_readCommand_52 inX6 3 q153 0 rfl rfl (by decide) rfl rfl ?_
            refine j_iload_n hX dX6_readCommand_55 rfl 0 rfl ?_
            refine j_iast hX (wP t ad o p_text p_length u1.2.1 p_count (upd p_kinds (p_count).toNatClampNeg x3) u1.2.2.1 u1.2.2.2) dX6_readCommand_56 2 0 rfl rfl rfl hf (fun c56 hf => ?_)
            refine j_iconst hX 1 dX6_readCommand_57 (by decide) ?_
            cases hf
            exact j_zret hX hE rfl dX6_readCommand_58 (Nat.le_refl _) (Nat.le_refl _) (kr _ rfl)
set_option maxHeartbeats 4000000 in
set_option maxRecDepth 100000 in
theorem k_X6_readCommand {l : Launch} {D : va_G} {t : Nat → ClassId} {ad : Nat → Nat} {o : Nat} (p_text : Nat → Int32) (p_length : Int32) (p_at : Int32) (p_count : Int32) (p_kinds : Nat → Int32) (p_arguments : Nat → Int32) (p_argumentCount : Int32)  (u : Int32 × Int32 × (Nat → Int32) × (Nat → Int32) × Int32) (hf : f_X6_readCommand p_text p_length p_at p_count p_kinds p_arguments p_argumentCount = some u) : cm l D (jT t) yX6_readCommand cX6_readCommand 4 (some FieldType.boolean) { frames := 5, cells := 0, slots := 0, locals := 108 } [.ref (ad o)] (wP t ad o p_text p_length p_at p_count p_kinds p_arguments p_argumentCount) (fun v w => v = (some (.int u.1)) ∧ w = wP t ad o p_text p_length u.2.1 p_count u.2.2.1 u.2.2.2.1 u.2.2.2.2) := by
  refine cm_of RX6 rfl (by decide +kernel) (Nat.le_of_ble_eq_true rfl) (fun X hX hE => ?_)
  change J X 0 0 (wP t ad o p_text p_length p_at p_count p_kinds p_arguments p_argumentCount) 0 [(0, .ref (ad o))] []
  unfold f_X6_readCommand at hf
  refine j_aload_n hX dX6_readCommand_0 rfl 0 rfl ?_
  refine j_get hX dX6_readCommand_1 inX6 2 q152 0 rfl rfl (by decide) rfl rfl ?_
  refine j_istore_n hX [(1, .int p_at), (0, .ref (ad o))] dX6_readCommand_4 rfl (by decide) rfl ?_
  refine j_aload_n hX dX6_readCommand_5 rfl 1 rfl ?_
  refine j_get hX dX6_readCommand_6 inX6 2 q152 0 rfl rfl (by decide) rfl rfl ?_
  refine j_istore_n hX [(2, .int p_at), (1, .int p_at), (0, .ref (ad o))] dX6_readCommand_9 rfl (by decide) rfl ?_
  refine j_iconst hX 0 dX6_readCommand_10 (by decide) ?_
  refine j_istore_n hX [(3, .int 0), (2, .int p_at), (1, .int p_at), (0, .ref (ad o))] dX6_readCommand_11 rfl (by decide) rfl ?_
  obtain ⟨o3, h5, hf⟩ := jbind hf
  refine k_X6_readCommand_L12 (ad := ad) p_text p_length p_count p_at  hX hE jFU 0 p_at p_at p_kinds p_arguments p_argumentCount o3 h5 (fun s4 es4 => ?_) (fun r er => ?_)
  · subst es4
    have hf := jsum_r hf
    refine j_aload_n hX dX6_readCommand_74 rfl 3 rfl ?_
    refine j_iload_n hX dX6_readCommand_75 rfl 1 rfl ?_
    refine j_put hX (wP t ad o p_text p_length s4.2.1 p_count s4.2.2.2.1 s4.2.2.2.2.1 s4.2.2.2.2.2) tyX6 dX6_readCommand_76 inX6 tyX6_ok nmX6 2 q152 0 rfl rfl (by decide) rfl rfl rfl rfl rfl (Nat.le_of_ble_eq_true rfl) rfl ?_
    refine j_iconst hX 0 dX6_readCommand_79 (by decide) ?_
    cases hf
    exact j_zret hX hE rfl dX6_readCommand_80 (Nat.le_refl _) (Nat.le_refl _) ⟨rfl, rfl⟩
  · subst er
    cases hf
    exact ⟨rfl, rfl⟩
-- HammerDepot$Script read ()I
def f_X6_read_L13 (p_text : Nat → Int32) (p_length : Int32) : Nat → Int32 → Int32 → Int32 → (Nat → Int32) → (Nat → Int32) → Int32 → Option ((Int32 × Int32 × Int32 × (Nat → Int32) × (Nat → Int32) × Int32) ⊕ (Int32 × Int32 × Int32 × (Nat → Int32) × (Nat → Int32) × Int32))
  | 0, _, _, _, _, _, _ => none
  | jn + 1, x1, p_at, p_count, p_kinds, p_arguments, p_argumentCount =>
    if x1 ≤ 0 then
      some (.inr (x1, p_at, p_count, p_kinds, p_arguments, p_argumentCount))
    else
      Option.bind (f_X6_readCommand p_text p_length p_at p_count p_kinds p_arguments p_argumentCount) (fun u1 =>
        if u1.1 = 0 then
          some (.inl (u1.2.1, u1.2.1, p_count, u1.2.2.1, u1.2.2.2.1, u1.2.2.2.2))
        else
          if u1.2.1 = p_length then
            some (.inl ((-1), u1.2.1, p_count + 1, u1.2.2.1, u1.2.2.2.1, u1.2.2.2.2))
          else
            Option.bind (f_X6_readCharacter p_text p_length u1.2.1 59) (fun u3 =>
              if u3.1 = 0 then
                some (.inl (u3.2, u3.2, p_count + 1, u1.2.2.1, u1.2.2.2.1, u1.2.2.2.2))
              else
                f_X6_read_L13 p_text p_length jn (x1 + (-1)) u3.2 (p_count + 1) u1.2.2.1 u1.2.2.2.1 u1.2.2.2.2))
def f_X6_read (p_text : Nat → Int32) (p_length : Int32) (p_at : Int32) (p_count : Int32) (p_kinds : Nat → Int32) (p_arguments : Nat → Int32) (p_argumentCount : Int32) : Option (Int32 × Int32 × Int32 × (Nat → Int32) × (Nat → Int32) × Int32) :=
  Option.bind (f_X6_read_L13 p_text p_length jFU 15 0 0 p_kinds p_arguments p_argumentCount) (fun o5 => Sum.elim (fun r => some r) (fun s6 =>
    some (s6.2.1, s6.2.1, s6.2.2.1, s6.2.2.2.1, s6.2.2.2.2.1, s6.2.2.2.2.2)) o5)
set_option maxHeartbeats 4000000 in
set_option maxRecDepth 100000 in
theorem k_X6_read_L13 {l : Launch} {D : va_G} {t : Nat → ClassId} {ad : Nat → Nat} {o : Nat} (p_text : Nat → Int32) (p_length : Int32)  {X : jX} (hX : jOK X l D (jT t) cX6_read RX6 (some FieldType.int) { frames := 6, cells := 0, slots := 0, locals := 131 } 2) {PP : Option Value → va_W → Prop} (hE : jEnd X PP 0 0) :
    ∀ (jn : Nat) (x1 : Int32) (p_at : Int32) (p_count : Int32) (p_kinds : Nat → Int32) (p_arguments : Nat → Int32) (p_argumentCount : Int32) (u : (Int32 × Int32 × Int32 × (Nat → Int32) × (Nat → Int32) × Int32) ⊕ (Int32 × Int32 × Int32 × (Nat → Int32) × (Nat → Int32) × Int32)) (hf : f_X6_read_L13 p_text p_length jn x1 p_at p_count p_kinds p_arguments p_argumentCount = some u) (kx : ∀ s : Int32 × Int32 × Int32 × (Nat → Int32) × (Nat → Int32) × Int32, u = .inr s → J X 0 0 (wP t ad o p_text p_length s.2.1 s.2.2.1 s.2.2.2.1 s.2.2.2.2.1 s.2.2.2.2.2) 72 [(1, .int s.1), (0, .ref (ad o))] []) (kr : ∀ r : Int32 × Int32 × Int32 × (Nat → Int32) × (Nat → Int32) × Int32, u = .inl r → PP (some (.int r.1)) (wP t ad o p_text p_length r.2.1 r.2.2.1 r.2.2.2.1 r.2.2.2.2.1 r.2.2.2.2.2)), J X 0 0 (wP t ad o p_text p_length p_at p_count p_kinds p_arguments p_argumentCount) 13 [(1, .int x1), (0, .ref (ad o))] [] := by
  intro jn
  induction jn with
  | zero => intro x1 p_at p_count p_kinds p_arguments p_argumentCount u hf; cases (show (none : Option ((Int32 × Int32 × Int32 × (Nat → Int32) × (Nat → Int32) × Int32) ⊕ (Int32 × Int32 × Int32 × (Nat → Int32) × (Nat → Int32) × Int32))) = some u from hf)
  | succ jn ih =>
    intro x1 p_at p_count p_kinds p_arguments p_argumentCount u hf kx kr
    unfold f_X6_read_L13 at hf
    refine j_iload_n hX dX6_read_13 rfl 0 rfl ?_
    refine j_if_le hX 72 dX6_read_14 (by decide) hf (fun c14 hf => ?_) (fun c14 hf => ?_)
    · cases hf
      exact kx _ rfl
    · refine j_aload_n hX dX6_read_17 rfl 1 rfl ?_
      obtain ⟨u1, h2, hf⟩ := jbind hf
      refine j_callV (st := []) hX (k_X6_readCommand (l := l) (D := D) (t := t) (ad := ad) (o := o) p_text p_length p_at p_count p_kinds p_arguments p_argumentCount  u1 h2) q1341 q1342 q1940 q10 q1343 (n9 := 0) rfl ⟨by decide +kernel, by decide +kernel⟩ 0 rfl rfl rfl dX6_read_18 (Nat.le_of_ble_eq_true rfl) ⟨Nat.le_refl _, Nat.le_refl _⟩ (fun w : va_W => w) jFr_id rfl rfl (fun v w hvw => ?_)
      obtain ⟨rfl, rfl⟩ := hvw
      change J X 0 0 (wP t ad o p_text p_length u1.2.1 p_count u1.2.2.1 u1.2.2.2.1 u1.2.2.2.2) 21 [(1, .int x1), (0, .ref (ad o))] [.int u1.1]
      refine j_if_ne hX 29 dX6_read_21 (by decide) hf (fun c21 hf => ?_) (fun c21 hf => ?_)
      · refine j_aload_n hX dX6_read_29 rfl 1 rfl ?_
        refine j_dup hX dX6_read_30 rfl ?_
        refine j_get hX dX6_read_31 inX6 3 q153 0 rfl rfl (by decide) rfl rfl ?_
        refine j_iconst hX 1 dX6_read_34 (by decide) ?_
        refine j_iadd hX dX6_read_35 ?_
        refine j_put hX (wP t ad o p_text p_length u1.2.1 (p_count + 1) u1.2.2.1 u1.2.2.2.1 u1.2.2.2.2) tyX6 dX6_read_36 inX6 tyX6_ok nmX6 3 q153 0 rfl rfl (by decide) rfl rfl rfl rfl rfl (Nat.le_of_ble_eq_true rfl) rfl ?_
        refine j_aload_n hX dX6_read_39 rfl 1 rfl ?_
        refine j_get hX dX6_read_40 inX6 2 q152 0 rfl rfl (by decide) rfl rfl ?_
        refine j_aload_n hX dX6_read_43 rfl 1 rfl ?_
        refine j_get hX dX6_read_44 inX6 1 q151 0 rfl rfl (by decide) rfl rfl ?_
        refine j_icmp_ne hX 52 dX6_read_47 (by decide) hf (fun c47 hf => ?_) (fun c47 hf => ?_)
        · refine j_aload_n hX dX6_read_52 rfl 1 rfl ?_
          refine j_bipush hX 59 dX6_read_53 (by decide) ?_
          obtain ⟨u3, h4, hf⟩ := jbind hf
          refine j_callV (st := []) hX (k_X6_readCharacter (l := l) (D := D) (t := t) (ad := ad) (o := o) p_text p_length u1.2.1 (p_count + 1) u1.2.2.1 u1.2.2.2.1 u1.2.2.2.2 59 u3 h4) q1378 q1379 q1946 q10 q1380 (n9 := 1) rfl ⟨by decide +kernel, by decide +kernel⟩ 0 rfl rfl rfl dX6_read_55 (Nat.le_of_ble_eq_true rfl) ⟨Nat.le_refl _, Nat.le_refl _⟩ (fun w : va_W => w) jFr_id rfl rfl (fun v w hvw => ?_)
          obtain ⟨rfl, rfl⟩ := hvw
          change J X 0 0 (wP t ad o p_text p_length u3.2 (p_count + 1) u1.2.2.1 u1.2.2.2.1 u1.2.2.2.2) 58 [(1, .int x1), (0, .ref (ad o))] [.int u3.1]
          refine j_if_ne hX 66 dX6_read_58 (by decide) hf (fun c58 hf => ?_) (fun c58 hf => ?_)
          · refine j_iinc hX (x1 + (-1)) [(1, .int (x1 + (-1))), (0, .ref (ad o))] dX6_read_66 0 rfl rfl (by decide) rfl ?_
            refine j_goto hX 13 dX6_read_69 (by decide) ?_
            exact ih (x1 + (-1)) u3.2 (p_count + 1) u1.2.2.1 u1.2.2.2.1 u1.2.2.2.2 u hf kx kr
          · refine j_aload_n hX dX6_read_61 rfl 1 rfl ?_
            refine j_get hX dX6_read_62 inX6 2 q152 0 rfl rfl (by decide) rfl rfl ?_
            cases hf
            exact j_iret hX hE dX6_read_65 (Nat.le_refl _) (Nat.le_refl _) (kr _ rfl)
        · refine j_iconst hX (-1) dX6_read_50 (by decide) ?_
          cases hf
          exact j_iret hX hE dX6_read_51 (Nat.le_refl _) (Nat.le_refl _) (kr _ rfl)
      · refine j_aload_n hX dX6_read_24 rfl 1 rfl ?_
        refine j_get hX dX6_read_25 inX6 2 q152 0 rfl rfl (by decide) rfl rfl ?_
        cases hf
        exact j_iret hX hE dX6_read_28 (Nat.le_refl _) (Nat.le_refl _) (kr _ rfl)
set_option maxHeartbeats 4000000 in
set_option maxRecDepth 100000 in
theorem k_X6_read {l : Launch} {D : va_G} {t : Nat → ClassId} {ad : Nat → Nat} {o : Nat} (p_text : Nat → Int32) (p_length : Int32) (p_at : Int32) (p_count : Int32) (p_kinds : Nat → Int32) (p_arguments : Nat → Int32) (p_argumentCount : Int32)  (u : Int32 × Int32 × Int32 × (Nat → Int32) × (Nat → Int32) × Int32) (hf : f_X6_read p_text p_length p_at p_count p_kinds p_arguments p_argumentCount = some u) : cm l D (jT t) yX6_read cX6_read 2 (some FieldType.int) { frames := 6, cells := 0, slots := 0, locals := 131 } [.ref (ad o)] (wP t ad o p_text p_length p_at p_count p_kinds p_arguments p_argumentCount) (fun v w => v = (some (.int u.1)) ∧ w = wP t ad o p_text p_length u.2.1 u.2.2.1 u.2.2.2.1 u.2.2.2.2.1 u.2.2.2.2.2) := by
  refine cm_of RX6 rfl (by decide +kernel) (Nat.le_of_ble_eq_true rfl) (fun X hX hE => ?_)
  change J X 0 0 (wP t ad o p_text p_length p_at p_count p_kinds p_arguments p_argumentCount) 0 [(0, .ref (ad o))] []
  unfold f_X6_read at hf
  refine j_aload_n hX dX6_read_0 rfl 0 rfl ?_
  refine j_iconst hX 0 dX6_read_1 (by decide) ?_
  refine j_put hX (wP t ad o p_text p_length 0 p_count p_kinds p_arguments p_argumentCount) tyX6 dX6_read_2 inX6 tyX6_ok nmX6 2 q152 0 rfl rfl (by decide) rfl rfl rfl rfl rfl (Nat.le_of_ble_eq_true rfl) rfl ?_
  refine j_aload_n hX dX6_read_5 rfl 0 rfl ?_
  refine j_iconst hX 0 dX6_read_6 (by decide) ?_
  refine j_put hX (wP t ad o p_text p_length 0 0 p_kinds p_arguments p_argumentCount) tyX6 dX6_read_7 inX6 tyX6_ok nmX6 3 q153 0 rfl rfl (by decide) rfl rfl rfl rfl rfl (Nat.le_of_ble_eq_true rfl) rfl ?_
  refine j_bipush hX 15 dX6_read_10 (by decide) ?_
  refine j_istore_n hX [(1, .int 15), (0, .ref (ad o))] dX6_read_12 rfl (by decide) rfl ?_
  obtain ⟨o5, h7, hf⟩ := jbind hf
  refine k_X6_read_L13 (ad := ad) p_text p_length  hX hE jFU 15 0 0 p_kinds p_arguments p_argumentCount o5 h7 (fun s6 es6 => ?_) (fun r er => ?_)
  · subst es6
    have hf := jsum_r hf
    refine j_aload_n hX dX6_read_72 rfl 1 rfl ?_
    refine j_get hX dX6_read_73 inX6 2 q152 0 rfl rfl (by decide) rfl rfl ?_
    cases hf
    exact j_iret hX hE dX6_read_76 (Nat.le_refl _) (Nat.le_refl _) ⟨rfl, rfl⟩
  · subst er
    cases hf
    exact ⟨rfl, rfl⟩

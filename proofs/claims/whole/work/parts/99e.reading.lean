/-! READING A FORM: what the class does -/
/-- a part of a form at p: where it ends and what it stores; none: it is not there -/
def zPt (f : Nat → Int32) (l : Nat) (ch : Int32) (p : Nat) : Option (Nat × List Int32) :=
  if ch = 78 then (if (zRn f l 3 p 0).1 = p then none else some ((zRn f l 3 p 0).1, [(zRn f l 3 p 0).2]))
  else if ch = 68 then (if (zRn f l 1 p 0).1 = p then none else some ((zRn f l 1 p 0).1, [(zRn f l 1 p 0).2]))
  else if p < l ∧ f p = ch then some (p + 1, []) else none
def zFm (f : Nat → Int32) (l : Nat) : List Int32 → Nat → Bool × Nat × List Int32
  | [], p => (true, p, [])
  | ch :: r, p => match zPt f l ch p with
    | none => (false, p, [])
    | some qo => ((zFm f l r qo.1).1, (zFm f l r qo.1).2.1, qo.2 ++ (zFm f l r qo.1).2.2)
def zPut (g : Nat → Int32) (k : Nat) : List Int32 → Nat → Int32
  | [] => g
  | v :: r => zPut (upd g k v) (k + 1) r
def zNs : List Int32 → Nat
  | [] => 0
  | ch :: r => (if ch = 78 ∨ ch = 68 then 1 else 0) + zNs r
theorem zPut_app (o r : List Int32) : ∀ (g : Nat → Int32) (k : Nat), zPut g k (o ++ r) = zPut (zPut g k o) (k + o.length) r := by
  induction o with
  | nil => intro g k; rfl
  | cons v o ih => intro g k; show zPut (upd g k v) (k + 1) (o ++ r) = _; rw [ih]; show _ = zPut (zPut (upd g k v) (k + 1) o) (k + (o.length + 1)) r; rw [show k + 1 + o.length = k + (o.length + 1) by omega]
theorem zPut_at (o : List Int32) : ∀ (g : Nat → Int32) (k x : Nat), zPut g k o x = if k ≤ x ∧ x < k + o.length then o.getD (x - k) 0 else g x := by
  induction o with
  | nil => intro g k x; rw [if_neg (fun h => by have h2 := h.2; rw [show ([] : List Int32).length = 0 from rfl] at h2; omega)]; rfl
  | cons v o ih =>
    intro g k x
    show zPut (upd g k v) (k + 1) o x = _
    rw [ih]
    simp only [List.length_cons]
    by_cases c : x = k
    · subst c
      rw [if_neg (by omega), if_pos (by omega), Nat.sub_self]
      unfold upd; rw [if_pos rfl]; rfl
    · by_cases c2 : k ≤ x ∧ x < k + (o.length + 1)
      · rw [if_pos (by omega), if_pos c2, show x - k = (x - (k + 1)) + 1 by omega]; rfl
      · rw [if_neg (by omega), if_neg c2]
        unfold upd; rw [if_neg c]
theorem x6_store {c n : Nat} (pa : Nat → Int32) (v : Int32) (hc : c < 15) (hn : n < 5) : f_X6_store (nI c) pa (nI n) v = some (upd pa (5 * c + n) v, nI (n + 1)) := by
  unfold f_X6_store
  have e : nI c * 5 + nI n = nI (5 * c + n) := by
    have e1 : ∀ c, c < 15 → nI c * 5 = nI (5 * c) := by decide +kernel
    rw [e1 c hc, nI_add]
  rw [if_neg (show ¬ (15 : Int32) ≤ nI c from nI_ge (b := 15) hc (by decide)), if_neg (show ¬ (5 : Int32) ≤ nI n from nI_ge (b := 5) hn (by decide)), e, if_pos (by rw [z_jin (by omega)]; exact decide_eq_true (by omega)), z_cl (by omega), nI_1]
section ZF
variable {l : Nat} {pt : Nat → Int32}
theorem zPt_le {ch : Int32} {p : Nat} (hp : p ≤ l) {q : Nat} {o : List Int32} (h : zPt pt l ch p = some (q, o)) : p ≤ q ∧ q ≤ l ∧ o.length ≤ (if ch = 78 ∨ ch = 68 then 1 else 0) := by
  unfold zPt at h
  by_cases c1 : ch = 78
  · rw [if_pos c1] at h
    by_cases c : (zRn pt l 3 p 0).1 = p
    · rw [if_pos c] at h; cases h
    · rw [if_neg c] at h
      have le := zRn_le pt l 3 p 0 hp
      have e := Option.some.inj h
      rw [if_pos (Or.inl c1)]
      cases e
      exact ⟨le.1, le.2.1, Nat.le_refl _⟩
  · rw [if_neg c1] at h
    by_cases c2 : ch = 68
    · rw [if_pos c2] at h
      by_cases c : (zRn pt l 1 p 0).1 = p
      · rw [if_pos c] at h; cases h
      · rw [if_neg c] at h
        have le := zRn_le pt l 1 p 0 hp
        have e := Option.some.inj h
        rw [if_pos (Or.inr c2)]
        cases e
        exact ⟨le.1, le.2.1, Nat.le_refl _⟩
    · rw [if_neg c2] at h
      by_cases c : p < l ∧ pt p = ch
      · rw [if_pos c] at h
        have e := Option.some.inj h
        cases e
        exact ⟨by show p ≤ p + 1; omega, c.1, Nat.zero_le _⟩
      · rw [if_neg c] at h; cases h
theorem x6_part {c n p : Nat} (pa : Nat → Int32) (ch : Int32) (hl : l ≤ 60) (hp : p ≤ l) (hc : c < 15) (hn : n + (if ch = 78 ∨ ch = 68 then 1 else 0) ≤ 5) :
    f_X6_readPart pt (nI l) (nI p) (nI c) pa (nI n) ch = match zPt pt l ch p with
      | none => some (0, nI p, pa, nI n)
      | some qo => some (1, nI qo.1, zPut pa (5 * c + n) qo.2, nI (n + qo.2.length)) := by
  unfold f_X6_readPart zPt
  by_cases c1 : ch = 78
  · rw [if_pos (Or.inl c1)] at hn
    rw [if_pos c1, if_pos c1, show f_X6_readNumber pt (nI l) (nI p) (nI c) pa (nI n) 3 = _ from x6_readNumber (a := 3) (nI c) (nI n) pa hl (by omega) hp]
    by_cases c2 : (zRn pt l 3 p 0).1 = p
    · rw [if_pos c2, if_pos c2, z_bind, if_pos (Or.inl rfl)]
    · rw [if_neg c2, if_neg c2, x6_store pa _ hc (by omega), z_bind, z_bind, if_pos (Or.inr rfl)]
      rfl
  · rw [if_neg c1, if_neg c1]
    by_cases c2 : ch = 68
    · rw [if_pos (Or.inr c2)] at hn
      rw [if_pos c2, if_pos c2, show f_X6_readNumber pt (nI l) (nI p) (nI c) pa (nI n) 1 = _ from x6_readNumber (a := 1) (nI c) (nI n) pa hl (by omega) hp]
      by_cases c3 : (zRn pt l 1 p 0).1 = p
      · rw [if_pos c3, if_pos c3, z_bind, if_pos (Or.inl rfl)]
      · rw [if_neg c3, if_neg c3, x6_store pa _ hc (by omega), z_bind, z_bind, if_pos (Or.inr rfl)]
        rfl
    · rw [if_neg c2, if_neg c2, x6_readCharacter ch hl hp, z_bind]
      by_cases c3 : p < l ∧ pt p = ch
      · rw [if_pos c3, if_pos c3, if_pos (Or.inr rfl)]; rfl
      · rw [if_neg c3, if_neg c3, if_pos (Or.inl rfl)]
/-- the signs of a form from i on -/
def zCs (k i d : Nat) : List Int32 := (List.range' i d).map (jFc k)
theorem jFl_le {k : Nat} (hk : k < 10) : jFl k ≤ 20 := by
  have : ∀ k, k < 10 → jFl k ≤ 20 := by decide +kernel
  exact this k hk
theorem x6_formL {c k : Nat} (hk : k < 10) (hl : l ≤ 60) (hc : c < 15) : ∀ (d i p n fu : Nat) (pa : Nat → Int32), i + d = jFl k → d < fu → p ≤ l → n + zNs (zCs k i d) ≤ 5 →
    f_X6_readForm_L12 pt (nI l) (nI c) k fu (nI i) (nI p) pa (nI n) = if (zFm pt l (zCs k i d) p).1 = true then some (.inr (nI (jFl k), nI (zFm pt l (zCs k i d) p).2.1, zPut pa (5 * c + n) (zFm pt l (zCs k i d) p).2.2, nI (n + (zFm pt l (zCs k i d) p).2.2.length))) else some (.inl (0, nI (zFm pt l (zCs k i d) p).2.1, zPut pa (5 * c + n) (zFm pt l (zCs k i d) p).2.2, nI (n + (zFm pt l (zCs k i d) p).2.2.length))) := by
  have hk20 := jFl_le hk
  intro d
  induction d with
  | zero =>
    intro i p n fu pa hi hf hp hn
    obtain ⟨fu, rfl⟩ : ∃ f, fu = f + 1 := ⟨fu - 1, by omega⟩
    unfold f_X6_readForm_L12
    rw [Nat.add_zero] at hi
    subst hi
    rw [if_pos (nI_le (Nat.le_refl _) (by omega))]
    rfl
  | succ d ih =>
    intro i p n fu pa hi hf hp hn
    obtain ⟨fu, rfl⟩ : ∃ f, fu = f + 1 := ⟨fu - 1, by omega⟩
    unfold f_X6_readForm_L12
    have e : zCs k i (d + 1) = jFc k i :: zCs k (i + 1) d := rfl
    rw [e] at hn ⊢
    have hn' : n + ((if jFc k i = 78 ∨ jFc k i = 68 then 1 else 0) + zNs (zCs k (i + 1) d)) ≤ 5 := hn
    rw [if_neg (nI_ge (by omega) (by omega)), if_pos (by rw [z_jin (by omega)]; exact decide_eq_true (by omega)), z_cl (by omega), x6_part pa _ hl hp hc (by omega)]
    unfold zFm
    cases h : zPt pt l (jFc k i) p with
    | none => rfl
    | some qo =>
      obtain ⟨q, o⟩ := qo
      have le := zPt_le hp h
      dsimp only
      rw [z_bind]
      dsimp only
      rw [if_neg (by decide), nI_1, ih (i + 1) q (n + o.length) fu _ (by omega) (by omega) le.2.1 (by omega), zPut_app, List.length_append, ← Nat.add_assoc, ← Nat.add_assoc]
/-- what follows 'day' -/
def zOd (f : Nat → Int32) (l p : Nat) : Bool × Nat × List Int32 :=
  if p < l ∧ f p = 32 then (if (zRn f l 3 (p + 1) 0).1 = p + 1 then (false, p + 1, []) else (true, (zRn f l 3 (p + 1) 0).1, [(zRn f l 3 (p + 1) 0).2])) else (true, p, [1])
/-- a form at p: whether it is there, where reading stops, what was stored -/
def zRd (f : Nat → Int32) (l k p : Nat) : Bool × Nat × List Int32 :=
  if k = 9 then (if (zFm f l (zCs k 0 (jFl k)) p).1 = true then zOd f l (zFm f l (zCs k 0 (jFl k)) p).2.1 else zFm f l (zCs k 0 (jFl k)) p) else zFm f l (zCs k 0 (jFl k)) p
theorem zFm_le : ∀ (r : List Int32) (p : Nat), p ≤ l → p ≤ (zFm pt l r p).2.1 ∧ (zFm pt l r p).2.1 ≤ l ∧ (zFm pt l r p).2.2.length ≤ zNs r := by
  intro r
  induction r with
  | nil => intro p hp; exact ⟨Nat.le_refl _, hp, Nat.le_refl _⟩
  | cons ch r ih =>
    intro p hp
    unfold zFm
    cases h : zPt pt l ch p with
    | none => exact ⟨Nat.le_refl _, hp, Nat.zero_le _⟩
    | some qo =>
      obtain ⟨q, o⟩ := qo
      have le := zPt_le hp h
      have g := ih q le.2.1
      refine ⟨Nat.le_trans le.1 g.1, g.2.1, ?_⟩
      show (o ++ (zFm pt l r q).2.2).length ≤ (if ch = 78 ∨ ch = 68 then 1 else 0) + zNs r
      rw [List.length_append]
      omega
theorem zCs_ns {k : Nat} (hk : k < 10) : zNs (zCs k 0 (jFl k)) ≤ 5 := by
  have : ∀ k, k < 10 → zNs (zCs k 0 (jFl k)) ≤ 5 := by decide +kernel
  exact this k hk
theorem x6_readForm {c k p : Nat} (pn : Int32) (pa : Nat → Int32) (hk : k < 10) (hl : l ≤ 60) (hc : c < 15) (hp : p ≤ l) : f_X6_readForm pt (nI l) (nI p) (nI c) pa pn (nI k) = some (if (zRd pt l k p).1 = true then 1 else 0, nI (zRd pt l k p).2.1, zPut pa (5 * c) (zRd pt l k p).2.2, nI (zRd pt l k p).2.2.length) := by
  unfold f_X6_readForm
  have ek : jKd (nI k) = k := by
    have : ∀ k, k < 10 → jKd (nI k) = k := by decide +kernel
    exact this k hk
  have e9 : (nI k = 9) = (k = 9) := by
    have : ∀ k, k < 10 → (nI k = 9 ↔ k = 9) := by decide +kernel
    exact propext (this k hk)
  have hk20 := jFl_le hk
  have L0 := x6_formL (pt := pt) hk hl hc (jFl k) 0 p 0 jFU pa (by omega) (pz_jFU (by omega)) hp (by have := zCs_ns hk; omega)
  have le := zFm_le (pt := pt) (zCs k 0 (jFl k)) p hp
  simp only [Nat.add_zero, Nat.zero_add] at L0
  rw [ek, show (0 : Int32) = nI 0 from rfl, L0]
  unfold zRd
  by_cases z : (zFm pt l (zCs k 0 (jFl k)) p).1 = true
  · rw [if_pos z, z_inr]
    by_cases c9 : k = 9
    · have n0 : (zFm pt l (zCs k 0 (jFl k)) p).2.2.length = 0 := by
        have : zNs (zCs 9 0 (jFl 9)) = 0 := by decide +kernel
        subst c9
        omega
      have nn : (zFm pt l (zCs k 0 (jFl k)) p).2.2 = [] := List.eq_nil_of_length_eq_zero n0
      rw [if_pos (show nI k = 9 by rw [e9]; exact c9), if_pos c9, if_pos z, nn]
      dsimp only
      unfold f_X6_readOptionalDays zOd
      rw [x6_readCharacter 32 hl le.2.1, z_bind]
      by_cases c32 : (zFm pt l (zCs k 0 (jFl k)) p).2.1 < l ∧ pt (zFm pt l (zCs k 0 (jFl k)) p).2.1 = 32
      · rw [if_pos c32, if_pos c32]
        dsimp only
        rw [if_neg (by decide), show ∀ (pc pn : Int32) (pa : Nat → Int32) (q : Nat), q ≤ l → f_X6_readNumber pt (nI l) (nI q) pc pa pn 3 = _ from fun pc pn pa q hq => x6_readNumber (a := 3) pc pn pa hl (by omega) hq]
        by_cases cn : (zRn pt l 3 ((zFm pt l (zCs k 0 (jFl k)) p).2.1 + 1) 0).1 = (zFm pt l (zCs k 0 (jFl k)) p).2.1 + 1
        · rw [if_pos cn, if_pos cn, z_bind, if_pos (Or.inl rfl), z_bind]
          dsimp only
          rw [if_pos (show (0 : Int32) = nI 0 from rfl), if_neg (by decide)]
          first | done | rfl
        · rw [if_neg cn, if_neg cn, show nI ([] : List Int32).length = nI 0 from rfl, show zPut pa (5 * c) [] = pa from rfl, x6_store pa _ hc (by decide), z_bind, z_bind, if_pos (Or.inr rfl), z_bind]
          dsimp only
          rw [if_neg (by decide), if_pos rfl, Nat.add_zero]
          first | done | rfl
        exact c32.1
      · rw [if_neg c32, if_neg c32]
        dsimp only
        rw [if_pos rfl, show nI ([] : List Int32).length = nI 0 from rfl, show zPut pa (5 * c) [] = pa from rfl, x6_store pa _ hc (by decide), z_bind, z_bind]
        dsimp only
        rw [if_neg (by decide), if_pos rfl, Nat.add_zero]
        rfl
    · rw [if_neg (show ¬ nI k = 9 by rw [e9]; exact c9), if_neg c9, if_pos z]
  · rw [if_neg z, z_inl]
    by_cases c9 : k = 9
    · rw [if_pos c9, if_neg z, if_neg z]; rfl
    · rw [if_neg c9, if_neg z]; rfl
end ZF
/-! READING A COMMAND: what the class does -/
theorem l_jmax {a b : Nat} (ha : a < 2147483648) (hb : b < 2147483648) : jmax (nI a) (nI b) = nI (max a b) := by
  unfold jmax
  by_cases c : a ≤ b
  · rw [Nat.max_eq_right c]
    by_cases e : a = b
    · subst e; simp
    · first | rw [if_neg (nI_ge (by omega) (by omega))] | rw [if_pos (nI_le c (by omega))] | rw [if_pos (nI_lt (by omega) (by omega))] | rw [if_neg (nI_nlt c (by omega))]
  · rw [Nat.max_eq_left (by omega)]
    first | rw [if_pos (nI_le (by omega) (by omega))] | rw [if_neg (nI_ge (by omega) (by omega))] | rw [if_neg (nI_nlt (by omega) (by omega))] | rw [if_pos (nI_lt (by omega) (by omega))]
def zFst (f : Nat → Int32) (l p : Nat) : Nat → Nat → Option Nat
  | _, 0 => none
  | j, d + 1 => if (zRd f l j p).1 = true then some j else zFst f l p (j + 1) d
def zMx (f : Nat → Int32) (l p : Nat) : Nat → Nat → Nat → Nat
  | _, 0, m => m
  | j, d + 1, m => zMx f l p (j + 1) d (max m (zRd f l j p).2.1)
section ZC
variable {l : Nat} {pt : Nat → Int32}
theorem zOd_le {p : Nat} (hp : p ≤ l) : p ≤ (zOd pt l p).2.1 ∧ (zOd pt l p).2.1 ≤ l ∧ (zOd pt l p).2.2.length ≤ 1 := by
  unfold zOd
  by_cases c : p < l ∧ pt p = 32
  · rw [if_pos c]
    have le := zRn_le pt l 3 (p + 1) 0 (by omega)
    by_cases c2 : (zRn pt l 3 (p + 1) 0).1 = p + 1
    · rw [if_pos c2]; exact ⟨Nat.le_succ p, c.1, Nat.zero_le _⟩
    · rw [if_neg c2]; exact ⟨by show p ≤ (zRn pt l 3 (p + 1) 0).1; omega, le.2.1, Nat.le_refl _⟩
  · rw [if_neg c]; exact ⟨Nat.le_refl _, hp, Nat.le_refl _⟩
theorem zRd_le {k p : Nat} (hk : k < 10) (hp : p ≤ l) : p ≤ (zRd pt l k p).2.1 ∧ (zRd pt l k p).2.1 ≤ l ∧ (zRd pt l k p).2.2.length ≤ 5 := by
  have le := zFm_le (pt := pt) (zCs k 0 (jFl k)) p hp
  have n5 := zCs_ns hk
  have lo := zOd_le (pt := pt) le.2.1
  unfold zRd
  by_cases c : k = 9
  · rw [if_pos c]
    by_cases c2 : (zFm pt l (zCs k 0 (jFl k)) p).1 = true
    · rw [if_pos c2]; omega
    · rw [if_neg c2]; omega
  · rw [if_neg c]; omega
theorem x6_cmdL {c p : Nat} (pk : Nat → Int32) (hl : l ≤ 60) (hc : c < 15) (hp : p ≤ l) : ∀ (d j m fu : Nat) (at0 : Int32) (pa : Nat → Int32) (pn : Int32), j + d = 10 → d < fu → m ≤ l →
    ∃ at' pa' pn', f_X6_readCommand_L12 pt (nI l) (nI c) (nI p) fu (nI j) (nI m) at0 pk pa pn = (match zFst pt l p j d with
      | some k => some (.inl (1, nI (zRd pt l k p).2.1, upd pk c (nI k), pa', pn'))
      | none => some (.inr (nI 10, nI (zMx pt l p j d m), at', pk, pa', pn'))) ∧ (∀ x, ¬ (5 * c ≤ x ∧ x < 5 * c + 5) → pa' x = pa x) ∧ (∀ k, zFst pt l p j d = some k → ∀ x, x < (zRd pt l k p).2.2.length → pa' (5 * c + x) = (zRd pt l k p).2.2.getD x 0) := by
  intro d
  induction d with
  | zero =>
    intro j m fu at0 pa pn hj hf hm
    obtain ⟨fu, rfl⟩ : ∃ f, fu = f + 1 := ⟨fu - 1, by omega⟩
    obtain rfl : j = 10 := by omega
    refine ⟨at0, pa, pn, ?_, fun _ _ => rfl, fun k h => by cases h⟩
    unfold f_X6_readCommand_L12
    rw [if_pos (show (10 : Int32) ≤ nI 10 by decide)]
    rfl
  | succ d ih =>
    intro j m fu at0 pa pn hj hf hm
    obtain ⟨fu, rfl⟩ : ∃ f, fu = f + 1 := ⟨fu - 1, by omega⟩
    have le := zRd_le (pt := pt) (k := j) (p := p) (by omega) hp
    have e := x6_readForm (pt := pt) (k := j) (p := p) pn pa (by omega) hl hc hp
    unfold f_X6_readCommand_L12 zFst zMx
    rw [if_neg (show ¬ (10 : Int32) ≤ nI j from nI_ge (b := 10) (by omega) (by decide)), if_neg (nI_pos (by omega)), if_neg (show ¬ (15 : Int32) ≤ nI c from nI_ge (b := 15) hc (by decide)), e, z_bind]
    dsimp only
    by_cases z : (zRd pt l j p).1 = true
    · rw [if_pos z, if_pos z, if_neg (by decide), if_pos (show jin (nI c) 15 = true by rw [z_jin (by omega)]; exact decide_eq_true hc), z_cl (by omega)]
      refine ⟨0, _, _, rfl, fun x hx => ?_, fun k h x hx => ?_⟩
      · rw [zPut_at, if_neg (by omega)]
      · cases h
        rw [zPut_at, if_pos (by omega), Nat.add_sub_cancel_left]
    · rw [if_neg z, if_neg z, if_pos rfl, nI_1, l_jmax (by omega) (by omega)]
      obtain ⟨at', pa', pn', q1, q2, q3⟩ := ih (j + 1) (max m (zRd pt l j p).2.1) fu (nI (zRd pt l j p).2.1) (zPut pa (5 * c) (zRd pt l j p).2.2) (nI (zRd pt l j p).2.2.length) (by omega) (by omega) (by omega)
      refine ⟨at', pa', pn', q1, fun x hx => ?_, q3⟩
      rw [q2 x hx, zPut_at, if_neg (by omega)]
theorem x6_readCommand {c p : Nat} (pk pa : Nat → Int32) (pn : Int32) (hl : l ≤ 60) (hc : c < 15) (hp : p ≤ l) :
    ∃ pa' pn', f_X6_readCommand pt (nI l) (nI p) (nI c) pk pa pn = (match zFst pt l p 0 10 with
      | some k => some (1, nI (zRd pt l k p).2.1, upd pk c (nI k), pa', pn')
      | none => some (0, nI (zMx pt l p 0 10 p), pk, pa', pn')) ∧ (∀ x, ¬ (5 * c ≤ x ∧ x < 5 * c + 5) → pa' x = pa x) ∧ (∀ k, zFst pt l p 0 10 = some k → ∀ x, x < (zRd pt l k p).2.2.length → pa' (5 * c + x) = (zRd pt l k p).2.2.getD x 0) := by
  obtain ⟨at', pa', pn', q1, q2, q3⟩ := x6_cmdL (pt := pt) pk hl hc hp 10 0 p jFU (nI p) pa pn rfl (pz_jFU (by omega)) hp
  refine ⟨pa', pn', ?_, q2, q3⟩
  unfold f_X6_readCommand
  rw [show f_X6_readCommand_L12 pt (nI l) (nI c) (nI p) jFU 0 (nI p) (nI p) pk pa pn = _ from q1]
  cases zFst pt l p 0 10 with
  | none => rfl
  | some k => rfl
end ZC

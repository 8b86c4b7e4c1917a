/-! PURE: the most grants -/
theorem ct_inj {p : Nat → Bool} {g : Nat → Nat} {m : Nat} : ∀ (n : Nat) (q : Nat → Bool), (∀ x, x < n → p x = true → g x < m ∧ q (g x) = true) → (∀ x y, x < n → y < n → p x = true → p y = true → g x = g y → x = y) → fb_ct p n ≤ fb_ct q m := by
  intro n
  induction n with
  | zero => intro q _ _; exact Nat.zero_le _
  | succ n ih =>
    intro q h1 h2
    rw [fb_ct_succ]
    by_cases c : p n = true
    · rw [if_pos c]
      obtain ⟨a, b⟩ := h1 n (by omega) c
      have u := fb_ct_upd q false a
      rw [if_pos b, if_neg (by decide)] at u
      have := ih (fun k => if k = g n then false else q k) (fun x hx px => by
        obtain ⟨a', b'⟩ := h1 x (by omega) px
        refine ⟨a', ?_⟩
        have : g x ≠ g n := fun e => by have := h2 x n (by omega) (by omega) px c e; omega
        simp only [if_neg this]; exact b') (fun x y hx hy => h2 x y (by omega) (by omega))
      omega
    · rw [if_neg c]
      exact ih q (fun x hx => h1 x (by omega)) (fun x y hx hy => h2 x y (by omega) (by omega))
def zNear (mk : Nat → Nat) (S : Nat → Bool) : Nat → Nat
  | 0 => 0
  | k + 1 => zNear mk S k ||| (if S k = true then mk k else 0)
theorem zNear_bit (mk : Nat → Nat) (S : Nat → Bool) (h : Nat) : ∀ q, (zNear mk S q).testBit h = true ↔ ∃ y, y < q ∧ S y = true ∧ (mk y).testBit h = true := by
  intro q
  induction q with
  | zero => simp [zNear]
  | succ q ih =>
    unfold zNear
    rw [Nat.testBit_or, Bool.or_eq_true, ih]
    constructor
    · rintro (⟨y, a, b⟩ | c)
      · exact ⟨y, by omega, b⟩
      · by_cases s : S q = true
        · rw [if_pos s] at c; exact ⟨q, by omega, s, c⟩
        · rw [if_neg s] at c; simp at c
    · rintro ⟨y, a, b, c⟩
      rcases Nat.lt_or_ge y q with z | z
      · exact Or.inl ⟨y, z, b, c⟩
      · obtain rfl : y = q := by omega
        rw [if_pos b]; exact Or.inr c
def zVal (f q : Nat) (mk : Nat → Nat) (lf : Nat → Bool) (S : Nat → Bool) : Nat :=
  fb_ct (fun x => decide (f ≤ x) && !S x) q + fb_ct (fun h => (zNear mk S q).testBit h && lf h) 12
def zMin (f q : Nat) (mk : Nat → Nat) (lf : Nat → Bool) (G : Nat) : Prop :=
  (∀ S : Nat → Bool, (∀ x, S x = true → f ≤ x ∧ x < q) → G ≤ zVal f q mk lf S) ∧ ∃ S : Nat → Bool, (∀ x, S x = true → f ≤ x ∧ x < q) ∧ G = zVal f q mk lf S
theorem zMin_one {f q : Nat} {mk : Nat → Nat} {lf : Nat → Bool} {G G' : Nat} (h : zMin f q mk lf G) (h' : zMin f q mk lf G') : G = G' := by
  obtain ⟨a, S, b, c⟩ := h
  obtain ⟨a', S', b', c'⟩ := h'
  have := a S' b'
  have := a' S b
  omega
/-- whether a request is matched -/
def zMb (hold : Nat → Int32) (x : Nat) : Bool := decide (pzf (fun h => decide (hold h = nI x)) 12 < 12)
theorem zMb_iff {hold : Nat → Int32} {x : Nat} : zMb hold x = true ↔ zHas hold 12 x := by
  unfold zMb zHas
  rw [decide_eq_true_eq, pzf_lt]
  constructor
  · rintro ⟨h, a, b⟩; exact ⟨h, a, by omega, of_decide_eq_true b⟩
  · rintro ⟨h, a, _, b⟩; exact ⟨h, a, decide_eq_true b⟩
theorem zMb_ham {hold : Nat → Int32} {x : Nat} (h : zMb hold x = true) : pzf (fun h => decide (hold h = nI x)) 12 < 12 ∧ hold (pzf (fun h => decide (hold h = nI x)) 12) = nI x := by
  have c : pzf (fun h => decide (hold h = nI x)) 12 < 12 := of_decide_eq_true h
  exact ⟨c, of_decide_eq_true (pzf_yes (p := fun h => decide (hold h = nI x)) c)⟩
/-- the state of the search ahead of request r -/
def zKuhn (f q : Nat) (mk : Nat → Nat) (lf : Nat → Bool) (r g : Nat) (hold : Nat → Int32) : Prop :=
  zOk q mk lf hold ∧ zInj hold 12 ∧ (∀ h x, h < 12 → x < 8 → hold h = nI x → f ≤ x ∧ x < r) ∧ g = fb_ct (zMb hold) q ∧
  ∃ S : Nat → Prop, (∀ x, S x → f ≤ x ∧ x < r) ∧ (∀ x, f ≤ x → x < r → zMb hold x = false → S x) ∧ zShut q mk lf hold S
theorem kuhn_step {f q r g u : Nat} {mk : Nat → Nat} {lf : Nat → Bool} {gf hold : Nat → Int32} (hq : q ≤ 8) (hgf : ∀ r, r < q → gf r = nI (mk r)) (hmk : ∀ r, r < q → mk r < 4096) (hu : u < 4096) (hlf : ∀ h, lf h = u.testBit h) (hr : r < q) (hfr : f ≤ r) (K : zKuhn f q mk lf r g hold) :
    ∃ (c : Int32) (hold' : Nat → Int32) (u' : Nat), f_X4_augment 16 gf hold (nI u) (nI r) (nI 0) = some (c, hold', nI u') ∧ ((c = 1 ∧ zKuhn f q mk lf (r + 1) (g + 1) hold') ∨ (c = 0 ∧ zKuhn f q mk lf (r + 1) g hold')) := by
  obtain ⟨ok, inj, rng, hg, S, S1, S2, S3⟩ := K
  have nor : ∀ h, h < 12 → hold h ≠ nI r := fun h hh e => by have := rng h r hh (by omega) e; omega
  have nmr : zMb hold r = false := by
    cases e : zMb hold r
    · rfl
    · obtain ⟨h, a, _, b⟩ := zMb_iff.mp e; exact absurd b (nor h a)
  have hold8 : ∀ h, h < 12 → zHeld hold h = true → ∃ x, x < q ∧ hold h = nI x := by
    intro h hh e
    rcases ok.1 h hh with a | a
    · simp [zHeld, a] at e
    · exact a
  have h7 : fb_ct (zHeld hold) 12 ≤ 7 := by
    have a : fb_ct (zHeld hold) 12 ≤ fb_ct (zMb hold) q := by
      refine ct_inj (g := fun h => (hold h).toNatClampNeg) 12 (zMb hold) (fun h hh e => ?_) (fun h1 h2 hh1 hh2 e1 e2 e => ?_)
      · obtain ⟨x, hx, e3⟩ := hold8 h hh e
        rw [e3, z_cl (by omega)]
        exact ⟨hx, zMb_iff.mpr ⟨h, hh, by omega, e3⟩⟩
      · obtain ⟨x, hx, e3⟩ := hold8 h1 hh1 e1
        obtain ⟨y, hy, e4⟩ := hold8 h2 hh2 e2
        simp only [e3, e4, z_cl (show x < 2147483648 by omega), z_cl (show y < 2147483648 by omega)] at e
        exact inj h1 h2 x hh1 hh2 (by omega) (by omega) (by omega) e3 (by rw [e4, e])
    have b := fb_ct_upd (zMb hold) true hr
    rw [nmr, if_neg (by decide), if_pos rfl] at b
    have c := fb_ct_le (fun k => if k = r then true else zMb hold k) q
    omega
  obtain ⟨c, hold', u', g1, g2, g3, g4⟩ := aug_core hq hgf hmk 16 0 r 12 u hold (by omega) hr hu (fun h hh => by rw [hlf]; exact hh) ok inj (Or.inl ⟨rfl, nor⟩) (Nat.zero_le _) h7
  refine ⟨c, hold', u', g1, ?_⟩
  rcases g4 with ⟨rfl, w1, w2, w3, w4, w5⟩ | ⟨rfl, rfl, l1, l2⟩
  · refine Or.inl ⟨rfl, w1, w3, fun h x hh hx e => ?_, ?_, S, fun x hx => ?_, fun x hx1 hx2 e => ?_, fun y hy sy h hh hm hl => ?_⟩
    · rcases (w4 x hx).mp ⟨h, hh, by omega, e⟩ with rfl | ⟨h5, a1, a2, a3⟩
      · omega
      · have := rng h5 x a1 hx a3; omega
    · have b := fb_ct_upd (zMb hold) true hr
      rw [nmr, if_neg (by decide), if_pos rfl] at b
      have : fb_ct (zMb hold') q = fb_ct (fun k => if k = r then true else zMb hold k) q := by
        refine fb_ct_cong (fun x hx => ?_)
        by_cases e : x = r
        · rw [if_pos e]; exact zMb_iff.mpr ((w4 x (by omega)).mpr (Or.inl e))
        · rw [if_neg e]
          cases e1 : zMb hold x
          · cases e2 : zMb hold' x
            · rfl
            · rcases (w4 x (by omega)).mp (zMb_iff.mp e2) with e3 | e3
              · exact absurd e3 e
              · rw [zMb_iff.mpr e3] at e1; cases e1
          · exact zMb_iff.mpr ((w4 x (by omega)).mpr (Or.inr (zMb_iff.mp e1)))
      omega
    · have := S1 x hx; omega
    · have nx : x ≠ r := by
        rintro rfl
        rw [zMb_iff.mpr ((w4 x (by omega)).mpr (Or.inl rfl))] at e; cases e
      refine S2 x hx1 (by omega) ?_
      cases e1 : zMb hold x
      · rfl
      · rw [zMb_iff.mpr ((w4 x (by omega)).mpr (Or.inr (zMb_iff.mp e1)))] at e; cases e
    · obtain ⟨x, a1, a2, a3⟩ := S3 y hy sy h hh hm hl
      exact ⟨x, a1, a2, by rw [(w5 S S3).2 y hy sy h hh hm hl]; exact a3⟩
  · refine Or.inr ⟨rfl, ok, inj, fun h x hh hx e => by have := rng h x hh hx e; omega, hg, fun x => S x ∨ x = r ∨ ∃ v, v < 12 ∧ u.testBit v = true ∧ u'.testBit v = false ∧ x < q ∧ hold' v = nI x, ?_, ?_, ?_⟩
    · rintro x (a | rfl | ⟨v, a1, a2, a3, a4, a5⟩)
      · have := S1 x a; omega
      · omega
      · have := rng v x a1 (by omega) a5; omega
    · intro x hx1 hx2 e
      by_cases c : x = r
      · exact Or.inr (Or.inl c)
      · exact Or.inl (S2 x hx1 (by omega) e)
    · rintro y hy (a | rfl | ⟨v, a1, a2, a3, a4, a5⟩) h hh hm hl
      · obtain ⟨x, b1, b2, b3⟩ := S3 y hy a h hh hm hl
        exact ⟨x, b1, Or.inl b2, b3⟩
      · have o := l2 h hh hm
        rw [hlf] at hl
        obtain ⟨x, b1, b2, _⟩ := l1 h hh hl o
        exact ⟨x, b1, Or.inr (Or.inr ⟨h, hh, hl, o, b1, b2⟩), b2⟩
      · obtain ⟨x, b1, b2, b3⟩ := l1 v a1 a2 a3
        have e : x = y := by
          rw [a5, z_eq (by omega) (by omega)] at b2; exact b2.symm
        subst e
        have o := b3 h hh hm
        rw [hlf] at hl
        obtain ⟨z, c1, c2, _⟩ := l1 h hh hl o
        exact ⟨z, c1, Or.inr (Or.inr ⟨h, hh, hl, o, c1, c2⟩), c2⟩
theorem kuhn_end {f q g : Nat} {mk : Nat → Nat} {lf : Nat → Bool} {hold : Nat → Int32} (hq : q ≤ 8) (K : zKuhn f q mk lf q g hold) : zMin f q mk lf g := by
  obtain ⟨ok, inj, rng, hg, S, S1, S2, S3⟩ := K
  have split : ∀ T : Nat → Bool, fb_ct (zMb hold) q = fb_ct (fun x => zMb hold x && !T x) q + fb_ct (fun x => zMb hold x && T x) q := by
    intro T
    rw [← fb_ct_or (fun k _ h => by cases e : T k <;> simp [e] at h)]
    refine fb_ct_cong (fun k hk => ?_)
    cases zMb hold k <;> cases T k <;> rfl
  have mrng : ∀ x, x < q → zMb hold x = true → f ≤ x := by
    intro x hx e
    obtain ⟨h, a, _, b⟩ := zMb_iff.mp e
    exact (rng h x a (by omega) b).1
  have near : ∀ T : Nat → Bool, fb_ct (fun x => zMb hold x && T x) q ≤ fb_ct (fun h => (zNear mk T q).testBit h && lf h) 12 := by
    intro T
    refine ct_inj (g := fun x => pzf (fun h => decide (hold h = nI x)) 12) q _ (fun x hx e => ?_) (fun x y hx hy e1 e2 e => ?_)
    · rw [Bool.and_eq_true] at e
      obtain ⟨a, b⟩ := zMb_ham e.1
      obtain ⟨c1, c2⟩ := ok.2 _ x a (by omega) b
      refine ⟨a, ?_⟩
      rw [Bool.and_eq_true]
      exact ⟨(zNear_bit mk T _ q).mpr ⟨x, hx, e.2, c1⟩, c2⟩
    · rw [Bool.and_eq_true] at e1 e2
      obtain ⟨a, b⟩ := zMb_ham e1.1
      obtain ⟨a', b'⟩ := zMb_ham e2.1
      rw [e, b', z_eq (by omega) (by omega)] at b
      exact b.symm
  constructor
  · intro T hT
    have a := split T
    have b := near T
    have c : fb_ct (fun x => zMb hold x && !T x) q ≤ fb_ct (fun x => decide (f ≤ x) && !T x) q := fb_ct_sub (fun x hx e => by
      rw [Bool.and_eq_true] at e ⊢
      exact ⟨decide_eq_true (mrng x hx e.1), e.2⟩)
    unfold zVal
    omega
  · have dec : ∃ T : Nat → Bool, ∀ x, T x = true ↔ S x := ⟨fun x => @decide (S x) (Classical.propDecidable _), fun x => by simp⟩
    obtain ⟨T, hT⟩ := dec
    refine ⟨T, fun x hx => S1 x ((hT x).mp hx), ?_⟩
    have a := split T
    have b := near T
    have c : fb_ct (fun x => decide (f ≤ x) && !T x) q ≤ fb_ct (fun x => zMb hold x && !T x) q := fb_ct_sub (fun x hx e => by
      rw [Bool.and_eq_true] at e ⊢
      refine ⟨?_, e.2⟩
      cases e1 : zMb hold x
      · have := (hT x).mpr (S2 x (of_decide_eq_true e.1) hx e1)
        rw [this] at e; simp at e
      · rfl)
    have c' : fb_ct (fun x => zMb hold x && !T x) q ≤ fb_ct (fun x => decide (f ≤ x) && !T x) q := fb_ct_sub (fun x hx e => by
      rw [Bool.and_eq_true] at e ⊢
      exact ⟨decide_eq_true (mrng x hx e.1), e.2⟩)
    have d : fb_ct (fun h => (zNear mk T q).testBit h && lf h) 12 ≤ fb_ct (fun x => zMb hold x && T x) q := by
      have pick : ∀ h, h < 12 → ((zNear mk T q).testBit h && lf h) = true → ∃ x, x < q ∧ S x ∧ hold h = nI x := by
        intro h hh e
        rw [Bool.and_eq_true] at e
        obtain ⟨y, y1, y2, y3⟩ := (zNear_bit mk T h q).mp e.1
        exact S3 y y1 ((hT y).mp y2) h hh y3 e.2
      refine ct_inj (g := fun h => (hold h).toNatClampNeg) 12 _ (fun h hh e => ?_) (fun h1 h2 hh1 hh2 e1 e2 e => ?_)
      · obtain ⟨x, x1, x2, x3⟩ := pick h hh e
        rw [x3, z_cl (by omega)]
        refine ⟨x1, ?_⟩
        rw [Bool.and_eq_true]
        exact ⟨zMb_iff.mpr ⟨h, hh, by omega, x3⟩, (hT x).mpr x2⟩
      · obtain ⟨x, x1, x2, x3⟩ := pick h1 hh1 e1
        obtain ⟨y, y1, y2, y3⟩ := pick h2 hh2 e2
        simp only [x3, y3, z_cl (show x < 2147483648 by omega), z_cl (show y < 2147483648 by omega)] at e
        exact inj h1 h2 x hh1 hh2 (by omega) (by omega) (by omega) x3 (by rw [y3, e])
    unfold zVal
    omega
theorem j7_fill {n : Nat} (v : Nat → Int32) (x : Int32) (hn : n < 1000) : ∃ v', f_J7_fill_53178 n v x = some v' ∧ (∀ j, j < n → v' j = x) := by
  obtain ⟨s, hs, e⟩ := pzG (F := f_J7_fill_53178_L5 n (nI n) x) (n := n) (fun k s => ∀ j, j < k → s j = x)
    (fun fu s _ => by rw [f_J7_fill_53178_L5, if_pos (nI_le (Nat.le_refl _) (by omega))])
    (fun fu k s hk hs => by
      refine ⟨upd s k x, fun j hj => ?_, ?_⟩
      · by_cases c : j = k
        · rw [c, z_upds]
        · rw [z_updn _ c]; exact hs j (by omega)
      · rw [f_J7_fill_53178_L5, if_neg (nI_ge hk (by omega)), if_pos (show jin (nI k) n = true by rw [z_jin (by omega)]; simp; omega), z_cl (by omega), nI_1])
    v jFU (pz_jFU (by omega)) (fun j hj => by omega)
  refine ⟨s, ?_, hs⟩
  unfold f_J7_fill_53178
  rw [show f_J7_fill_53178_L5 n (Int32.ofNat n) x jFU 0 v = f_J7_fill_53178_L5 n (nI n) x jFU (nI 0) v from rfl, e, z_bind]
theorem x4_greatestFrom {f q u : Nat} {mk : Nat → Nat} {gf : Nat → Int32} (hold0 : Nat → Int32) (un : Int32) (hq : q ≤ 8) (hgf : ∀ r, r < q → gf r = nI (mk r)) (hmk : ∀ r, r < q → mk r < 4096) (hu : u < 4096) (hf : f ≤ q) :
    ∃ G hold' un', f_X4_greatestFrom (nI q) gf hold0 un (nI f) (nI u) = some (nI G, hold', un') ∧ zMin f q mk (fun h => u.testBit h) G ∧ G ≤ 8 := by
  obtain ⟨v, e1, hv⟩ := j7_fill (n := 12) hold0 (-1) (by omega)
  have K0 : zKuhn f q mk (fun h => u.testBit h) f 0 v := by
    have no : ∀ h x, h < 12 → x < 8 → v h ≠ nI x := fun h x hh hx e => by rw [hv h hh] at e; exact zm1_ne (by omega) e.symm
    refine ⟨⟨fun h hh => Or.inl (hv h hh), fun h x hh hx e => absurd e (no h x hh hx)⟩, fun h1 h2 x hh1 hh2 hx _ _ e1 _ => absurd e1 (no h1 x hh1 hx), fun h x hh hx e => absurd e (no h x hh hx), ?_, fun _ => False, fun x h => h.elim, fun x a b => by omega, fun y _ h => h.elim⟩
    symm
    refine fb_ct_zero.mpr (fun x hx => ?_)
    cases e : zMb v x
    · rfl
    · obtain ⟨h, a, _, b⟩ := zMb_iff.mp e
      exact absurd b (no h x a (by omega))
  obtain ⟨s, hs, e2⟩ := pzG2 (F := fun fu x (s : Int32 × (Nat → Int32) × Int32) => Option.map (fun r => (r.1, r.2.1, r.2.2.1, r.2.2.2)) (f_X4_greatestFrom_L13 (nI q) gf (nI u) fu x s.1 s.2.1 s.2.2)) (n := q) f (fun k s => ∃ g, s.1 = nI g ∧ zKuhn f q mk (fun h => u.testBit h) k g s.2.1)
    (fun fu s _ => by
      show Option.map _ (f_X4_greatestFrom_L13 (nI q) gf (nI u) (fu + 1) (nI q) s.1 s.2.1 s.2.2) = _
      rw [f_X4_greatestFrom_L13, if_pos (nI_le (Nat.le_refl _) (by omega))]; rfl)
    (fun fu k s hk hfk hs => by
      obtain ⟨g, h1, K⟩ := hs
      obtain ⟨s1, s2, s3⟩ := s
      simp only at h1 K
      subst h1
      obtain ⟨c, hold', u', g1, g2⟩ := kuhn_step hq hgf hmk hu (fun _ => rfl) hk hfk K
      show ∃ s', _ ∧ Option.map _ (f_X4_greatestFrom_L13 (nI q) gf (nI u) (fu + 1) (nI k) (nI g) s2 s3) = _
      rw [f_X4_greatestFrom_L13, if_neg (nI_ge hk (by omega)), show f_X4_augment 16 gf s2 (nI u) (nI k) 0 = f_X4_augment 16 gf s2 (nI u) (nI k) (nI 0) from rfl, g1, z_bind, nI_1]
      rcases g2 with ⟨rfl, K'⟩ | ⟨rfl, K'⟩
      · rw [if_neg z_n10, nI_1]
        exact ⟨(nI (g + 1), hold', nI u'), ⟨g + 1, rfl, K'⟩, rfl⟩
      · rw [if_pos rfl]
        exact ⟨(nI g, hold', nI u'), ⟨g, rfl, K'⟩, rfl⟩)
    (nI 0, v, un) jFU hf (pz_jFU (by omega)) ⟨0, rfl, K0⟩
  obtain ⟨g, h1, K⟩ := hs
  obtain ⟨s1, s2, s3⟩ := s
  simp only at h1 K
  subst h1
  have e2' : f_X4_greatestFrom_L13 (nI q) gf (nI u) jFU (nI f) (nI 0) v un = some (nI q, nI g, s2, s3) := by
    have e3 : Option.map (fun r => (r.1, r.2.1, r.2.2.1, r.2.2.2)) (f_X4_greatestFrom_L13 (nI q) gf (nI u) jFU (nI f) (nI 0) v un) = some (nI q, nI g, s2, s3) := e2
    cases e4 : f_X4_greatestFrom_L13 (nI q) gf (nI u) jFU (nI f) (nI 0) v un with
    | none => rw [e4] at e3; cases e3
    | some r => rw [e4] at e3; exact e3
  have m := kuhn_end hq K
  refine ⟨g, s2, s3, ?_, m, ?_⟩
  · unfold f_X4_greatestFrom
    rw [e1, z_bind, show f_X4_greatestFrom_L13 (nI q) gf (nI u) jFU (nI f) 0 v un = f_X4_greatestFrom_L13 (nI q) gf (nI u) jFU (nI f) (nI 0) v un from rfl, e2', z_bind]
  · have := K.2.2.2.1
    have := fb_ct_le (zMb s2) q
    omega

/-! PURE: the first state -/
theorem zRel_init {hp hw hs hb hd ht ri rb rp rt rf rl bh bb bf bl m : Nat → Int32} (h : ∀ s, s < 18 → ht s = -1) (hm : ∀ x, x < 2048 → m x = if x = 2 then 20 else 0) : zRel 0 0 hp hw hs hb hd ht 0 0 ri rb rp rt rf rl 0 bh bb bf bl 0 20 0 0 0 0 0 m := by
  have z : ∀ x, x < 2048 → x ≠ 2 → m x = nI 0 := fun x hx c => by rw [hm x hx, if_neg c]; rfl
  refine ⟨0, fun _ => 0, fun _ => 0, fun _ => 0, fun _ => 0, fun _ => 0, 0, 0, 0, ⟨by omega, rfl, z 0 (by omega) (by omega), fun k hk => by omega, fun k hk => by omega, fun k hk => by omega, fun k hk => by omega, fun k _ hk => z _ (by omega) (by omega), fun s hs' => ?_, fun i j hi => by omega⟩, ⟨by omega, rfl, z 4 (by omega) (by omega), z 3 (by omega) (by omega), ⟨0, by omega, rfl⟩, fun k hk => by omega, fun k hk => by omega⟩, ⟨by omega, rfl, z 5 (by omega) (by omega), fun k hk => by omega, fun k hk => by omega⟩, ⟨by omega, rfl, z 1 (by omega) (by omega), by rw [hm 2 (by omega), if_pos rfl], by decide, z 6 (by omega) (by omega), z 7 (by omega) (by omega)⟩⟩
  rw [h s hs']
  unfold zO
  rw [if_neg (by omega)]
theorem zHist_init (yhs : Nat → SB) (past : Nat → Int32) : zHist 0 yhs 0 0 past 0 := ⟨0, 0, by omega, by omega, rfl, rfl, rfl, fun i hi => by omega⟩
theorem zSnap_init (s : SB) (sv : Nat → Int32) : zSnap 0 0 s sv 0 := ⟨rfl, fun h => absurd rfl h⟩
theorem zTx_init (pt inp : Nat → Int32) : zTx pt 0 inp 0 := ⟨0, by omega, rfl, rfl, fun k hk => by omega⟩

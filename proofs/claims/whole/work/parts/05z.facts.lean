theorem jsel_on {C : String} {x y : MethodName} : (Cond.selects C x y).onTables = true := by first | rfl | simp [Cond.onTables]
theorem jsel_warm {C : String} {x y : MethodName} {s U : State} (hW : s.WarmedH U.vm) (hZ : va_Nw (.selects C x y) s) : va_Nw (.selects C x y) U := va_Nw.of jsel_on (A := #[]) (word_at hW (Or.inl (by first | rfl | simp [Cond.onTables, Cond.keeps, Cond.steady])) (va_Nw.use (A := #[]) jsel_on hZ))
def jNcs : List (String × String) := [("java/lang/ArithmeticException", "java/lang/IllegalArgumentException"), ("java/lang/ArithmeticException", "java/lang/IllegalStateException"), ("java/lang/ArithmeticException", "java/lang/IndexOutOfBoundsException"), ("java/lang/ArithmeticException", "java/lang/UnsupportedOperationException"), ("java/lang/ArithmeticException", "java/util/NoSuchElementException"), ("java/lang/IllegalArgumentException", "java/lang/ArithmeticException"), ("java/lang/IllegalArgumentException", "java/lang/IllegalStateException"), ("java/lang/IllegalArgumentException", "java/lang/IndexOutOfBoundsException"), ("java/lang/IllegalArgumentException", "java/lang/UnsupportedOperationException"), ("java/lang/IllegalArgumentException", "java/util/NoSuchElementException"), ("java/lang/IllegalStateException", "java/lang/ArithmeticException"), ("java/lang/IllegalStateException", "java/lang/IllegalArgumentException"), ("java/lang/IllegalStateException", "java/lang/IndexOutOfBoundsException"), ("java/lang/IllegalStateException", "java/lang/UnsupportedOperationException"), ("java/lang/IllegalStateException", "java/util/NoSuchElementException"), ("java/lang/IndexOutOfBoundsException", "java/lang/ArithmeticException"), ("java/lang/IndexOutOfBoundsException", "java/lang/IllegalArgumentException"), ("java/lang/IndexOutOfBoundsException", "java/lang/IllegalStateException"), ("java/lang/IndexOutOfBoundsException", "java/lang/UnsupportedOperationException"), ("java/lang/IndexOutOfBoundsException", "java/util/NoSuchElementException"), ("java/lang/UnsupportedOperationException", "java/lang/ArithmeticException"), ("java/lang/UnsupportedOperationException", "java/lang/IllegalArgumentException"), ("java/lang/UnsupportedOperationException", "java/lang/IllegalStateException"), ("java/lang/UnsupportedOperationException", "java/lang/IndexOutOfBoundsException"), ("java/lang/UnsupportedOperationException", "java/util/NoSuchElementException"), ("java/util/NoSuchElementException", "java/lang/ArithmeticException"), ("java/util/NoSuchElementException", "java/lang/IllegalArgumentException"), ("java/util/NoSuchElementException", "java/lang/IllegalStateException"), ("java/util/NoSuchElementException", "java/lang/IndexOutOfBoundsException"), ("java/util/NoSuchElementException", "java/lang/UnsupportedOperationException")]
def jOverI : Nat → Int32 := fun k => match k with | 0 => 0 | 1 => 12 | 2 => 19 | _ => 24
def jOver : Nat → Value := fun k => .int (jOverI k)
def jOnes : Nat → Value := fun k => .int (Int32.ofNat (48 + k % 10))
def jTens : Nat → Value := fun k => .int (Int32.ofNat (48 + k / 10))
def jBytes (s : String) : Nat → Value := fun k => .int (Int32.ofNat ((s.toList.getD k (Char.ofNat 0)).toNat))
def jTexts : List (String × Nat × String) := [(RX9, 109, "an argument is not in its range"), (RX9, 116, "there is no such hammer, rack or place"), (RX9, 121, "the depot does not allow this now"), (RX9, 126, "no request with this id waits"), (RX9, 131, "no hammer fits, or the coins are too few"), (RX9, 414, "there is no such hammer"), (RX9, 416, "the hammer is not lent"), (RX9, 418, "the hammer is lent"), (RX9, 182, "there is no such rack or place"), (RX9, 187, "the place is free"), (RX9, 228, "there is no such position"), (RX9, 243, "no hammer fits the request"), (RX9, 411, "there is no such rack"), (RX9, 264, "there are no hammers in the rack"), (RX9, 423, "the size is not between 1 and 5"), (RX9, 425, "fewer hammers lie in racks"), (RX9, 192, "there is no such rank"), (RX9, 196, "there are no hammers"), (RX9, 354, "the output text has no such index"), (RX9, 360, "the character code is not between 32 and 126"), (RX9, 365, "the script buffer is full"), (RX9, 376, "the script does not have the required form"), (RX9, 385, "a command of the script failed"), (RX9, 393, "every script had the required form"), (RX9, 395, "no script had a failed command"), (RX9, 398, "there is nothing to undo"), (RX9, 406, "there is no snapshot")]
def jForms : List (String × Nat × String) := [(RX6, 39, "hammer N D"), (RX6, 41, "move N D"), (RX6, 43, "swap DDD"), (RX6, 45, "ask D N~N N-N"), (RX6, 47, "drop N"), (RX6, 49, "grant N"), (RX6, 51, "most"), (RX6, 53, "back N N D"), (RX6, 55, "face N"), (RX6, 57, "day")]
/-- the facts of the heap ahead of the law: nobody writes there (A: where one may write) -/
def jZ (U : State) (H : Heap) (A : Nat → Prop) : Prop := (∃ a : Nat, va_Z RX1 "OVERTONES" "[I" (.ref a) A U H ∧ va_T .int a 4 jOver A U H) ∧ (∃ a : Nat, va_Z "java/lang/Integer" "DigitOnes" "[B" (.ref a) A U H ∧ va_T .byte a 100 jOnes A U H) ∧ (∃ a : Nat, va_Z "java/lang/Integer" "DigitTens" "[B" (.ref a) A U H ∧ va_T .byte a 100 jTens A U H) ∧ (vx_Zq Bundle.tN "UNASSIGNED_STACK" Bundle.steD A U H) ∧ (vx_Zq Bundle.tN "SUPPRESSED_SENTINEL" Bundle.listD A U H) ∧ (va_Z "java/lang/String" "COMPACT_STRINGS" "Z" (.int 1) A U H ∧ va_Zq "jdk/internal/util/Preconditions" "SIOOBE_FORMATTER" "Ljava/util/function/BiFunction;" A U H ∧ va_Nw (Cond.selects RJ4 yJ5_ensureCapacityInternal_d00df yJ5_ensureCapacityInternal_d00df) U ∧ va_Nw (Cond.selects RJ4 yJ5_newCapacity_0f7a4 yJ5_newCapacity_0f7a4) U) ∧ (∀ q ∈ jTexts, ∃ sa : Nat, vk_R q.1 q.2.1 q.2.2 sa U) ∧ (∀ q ∈ jForms, ∃ sa b : Nat, vk_R q.1 q.2.1 q.2.2 sa U ∧ va_O "java/lang/String" sa A U H ∧ va_OF "java/lang/String" "value" "[B" (.ref b) sa A U H ∧ va_OF "java/lang/String" "coder" "B" (.int 0) sa A U H ∧ va_T .byte b q.2.2.toList.length (jBytes q.2.2) A U H) ∧ (∀ q ∈ jNcs, va_Nc q.1 q.2 U)
theorem jZ.warm {s U : State} {H : Heap} {A : Nat → Prop} (hW : s.WarmedH U.vm) (h : jZ s H A) : jZ U H A := by
  obtain ⟨h0, h1, h2, h3, h4, h5, h6, h7, h8⟩ := h
  refine ⟨?_, ?_, ?_, ?_, ?_, ?_, ?_, ?_, ?_⟩
  · obtain ⟨a, z1, z2⟩ := h0
    exact ⟨a, va_Z.moved hW.alike z1, va_T.moved hW.alike z2⟩
  · obtain ⟨a, z1, z2⟩ := h1
    exact ⟨a, va_Z.moved hW.alike z1, va_T.moved hW.alike z2⟩
  · obtain ⟨a, z1, z2⟩ := h2
    exact ⟨a, va_Z.moved hW.alike z1, va_T.moved hW.alike z2⟩
  · exact vx_Zq.moved hW.alike h3
  · exact vx_Zq.moved hW.alike h4
  · exact ⟨va_Z.moved hW.alike h5.1, va_Zq.moved hW.alike h5.2.1, jsel_warm hW h5.2.2.1, jsel_warm hW h5.2.2.2⟩
  · intro q hq9
    obtain ⟨sa, z1⟩ := h6 q hq9
    exact ⟨sa, vk_R.warm hW z1⟩
  · intro q hq9
    obtain ⟨sa, b, z1, z2, z3, z4, z5⟩ := h7 q hq9
    exact ⟨sa, b, vk_R.warm hW z1, va_O.moved hW.alike z2, va_OF.moved hW.alike z3, va_OF.moved hW.alike z4, va_T.moved hW.alike z5⟩
  · exact fun q hq9 => va_Nc.moved hW.alike (h8 q hq9)
theorem jZ.same {s U : State} {H : Heap} {A : Nat → Prop} (hv : U.vm = s.vm) (h : jZ s H A) : jZ U H A := by
  obtain ⟨h0, h1, h2, h3, h4, h5, h6, h7, h8⟩ := h
  refine ⟨?_, ?_, ?_, ?_, ?_, ?_, ?_, ?_, ?_⟩
  · obtain ⟨a, z1, z2⟩ := h0
    exact ⟨a, va_Z.moved (by rw [hv]; exact Vm.Alike.refl _) z1, va_T.moved (by rw [hv]; exact Vm.Alike.refl _) z2⟩
  · obtain ⟨a, z1, z2⟩ := h1
    exact ⟨a, va_Z.moved (by rw [hv]; exact Vm.Alike.refl _) z1, va_T.moved (by rw [hv]; exact Vm.Alike.refl _) z2⟩
  · obtain ⟨a, z1, z2⟩ := h2
    exact ⟨a, va_Z.moved (by rw [hv]; exact Vm.Alike.refl _) z1, va_T.moved (by rw [hv]; exact Vm.Alike.refl _) z2⟩
  · exact vx_Zq.moved (by rw [hv]; exact Vm.Alike.refl _) h3
  · exact vx_Zq.moved (by rw [hv]; exact Vm.Alike.refl _) h4
  · exact ⟨va_Z.moved (by rw [hv]; exact Vm.Alike.refl _) h5.1, va_Zq.moved (by rw [hv]; exact Vm.Alike.refl _) h5.2.1, va_Nw.same jsel_on hv.symm h5.2.2.1, va_Nw.same jsel_on hv.symm h5.2.2.2⟩
  · intro q hq9
    obtain ⟨sa, z1⟩ := h6 q hq9
    exact ⟨sa, vk_R.same hv z1⟩
  · intro q hq9
    obtain ⟨sa, b, z1, z2, z3, z4, z5⟩ := h7 q hq9
    exact ⟨sa, b, vk_R.same hv z1, va_O.moved (by rw [hv]; exact Vm.Alike.refl _) z2, va_OF.moved (by rw [hv]; exact Vm.Alike.refl _) z3, va_OF.moved (by rw [hv]; exact Vm.Alike.refl _) z4, va_T.moved (by rw [hv]; exact Vm.Alike.refl _) z5⟩
  · exact fun q hq9 => va_Nc.moved (by rw [hv]; exact Vm.Alike.refl _) (h8 q hq9)
theorem jZ.kept {U : State} {H H1 : Heap} {A : Nat → Prop} (h : jZ U H A) (hq : ∀ a : Nat, a < H.size → ¬ A a → H1[a]? = H[a]?) : jZ U H1 A := by
  obtain ⟨h0, h1, h2, h3, h4, h5, h6, h7, h8⟩ := h
  refine ⟨?_, ?_, ?_, ?_, ?_, ?_, ?_, ?_, ?_⟩
  · obtain ⟨a, z1, z2⟩ := h0
    exact ⟨a, z1.kept hq, z2.kept hq⟩
  · obtain ⟨a, z1, z2⟩ := h1
    exact ⟨a, z1.kept hq, z2.kept hq⟩
  · obtain ⟨a, z1, z2⟩ := h2
    exact ⟨a, z1.kept hq, z2.kept hq⟩
  · exact h3.kept hq
  · exact h4.kept hq
  · exact ⟨h5.1.kept hq, h5.2.1.kept hq, h5.2.2.1, h5.2.2.2⟩
  · intro q hq9
    obtain ⟨sa, z1⟩ := h6 q hq9
    exact ⟨sa, z1⟩
  · intro q hq9
    obtain ⟨sa, b, z1, z2, z3, z4, z5⟩ := h7 q hq9
    exact ⟨sa, b, z1, z2.kept hq, z3.kept hq, z4.kept hq, z5.kept hq⟩
  · exact fun q hq9 => h8 q hq9
theorem jZ.narrow {U : State} {H : Heap} {A B : Nat → Prop} (h : jZ U H A) (hAB : ∀ q, B q → A q) : jZ U H B := by
  obtain ⟨h0, h1, h2, h3, h4, h5, h6, h7, h8⟩ := h
  refine ⟨?_, ?_, ?_, ?_, ?_, ?_, ?_, ?_, ?_⟩
  · obtain ⟨a, z1, z2⟩ := h0
    exact ⟨a, z1.narrow hAB, z2.narrow hAB⟩
  · obtain ⟨a, z1, z2⟩ := h1
    exact ⟨a, z1.narrow hAB, z2.narrow hAB⟩
  · obtain ⟨a, z1, z2⟩ := h2
    exact ⟨a, z1.narrow hAB, z2.narrow hAB⟩
  · exact h3.narrow hAB
  · exact h4.narrow hAB
  · exact ⟨h5.1.narrow hAB, h5.2.1.narrow hAB, h5.2.2.1, h5.2.2.2⟩
  · intro q hq9
    obtain ⟨sa, z1⟩ := h6 q hq9
    exact ⟨sa, z1⟩
  · intro q hq9
    obtain ⟨sa, b, z1, z2, z3, z4, z5⟩ := h7 q hq9
    exact ⟨sa, b, z1, z2.narrow hAB, z3.narrow hAB, z4.narrow hAB, z5.narrow hAB⟩
  · exact fun q hq9 => h8 q hq9

/-! PURE: the class' count by cycles, arrangement by arrangement -/
def cB (c : Nat) : Bool := decide (f_X7_swapsByCycles (nI c) = some (nI (phiK c)))
set_option maxRecDepth 100000 in
theorem enu_cB0 : enu cB 5 (0 + 0 * 2 ^ (3 * (5 - 5))) (0 ||| 2 ^ 0) = true := by decide +kernel
set_option maxRecDepth 100000 in
theorem enu_cB1 : enu cB 5 (0 + 1 * 2 ^ (3 * (5 - 5))) (0 ||| 2 ^ 1) = true := by decide +kernel
set_option maxRecDepth 100000 in
theorem enu_cB2 : enu cB 5 (0 + 2 * 2 ^ (3 * (5 - 5))) (0 ||| 2 ^ 2) = true := by decide +kernel
set_option maxRecDepth 100000 in
theorem enu_cB3 : enu cB 5 (0 + 3 * 2 ^ (3 * (5 - 5))) (0 ||| 2 ^ 3) = true := by decide +kernel
set_option maxRecDepth 100000 in
theorem enu_cB4 : enu cB 5 (0 + 4 * 2 ^ (3 * (5 - 5))) (0 ||| 2 ^ 4) = true := by decide +kernel
set_option maxRecDepth 100000 in
theorem enu_cB5 : enu cB 5 (0 + 5 * 2 ^ (3 * (5 - 5))) (0 ||| 2 ^ 5) = true := by decide +kernel
set_option maxRecDepth 100000 in
theorem enu_cB6 : enu cB 5 (0 + 6 * 2 ^ (3 * (5 - 5))) (0 ||| 2 ^ 6) = true := by decide +kernel
theorem enu_cB : enu cB 6 0 0 = true := by
  unfold enu
  simp only [List.all_cons, List.all_nil, enu_cB0, enu_cB1, enu_cB2, enu_cB3, enu_cB4, enu_cB5, enu_cB6, Bool.or_true, Bool.and_true]
theorem x7_swapsByCycles {c : Nat} (hv : vB c = true) : f_X7_swapsByCycles (nI c) = some (nI (phi c)) := by
  have h := of_decide_eq_true (show decide (f_X7_swapsByCycles (nI c) = some (nI (phiK c))) = true from enu_all enu_cB hv)
  rw [phiK_eq] at h
  exact h

/-- the words of the tables that hold wherever the tables do -/
def GW : List Cond := lw_tbl.filter goodWord
theorem gw_good : ∀ w ∈ GW, goodWord w = true := fun w h => (List.mem_filter.mp h).2
theorem gw_tbl : ∀ w ∈ GW, w ∈ lw_tbl := fun w h => (List.mem_filter.mp h).1
theorem gw1 {w : Cond} (h : w ∈ tables_1_1) (g : goodWord w = true) : w ∈ GW := List.mem_filter.mpr ⟨List.mem_append_right _ (List.mem_append_left _ h), g⟩
theorem gw2 {w : Cond} (h : w ∈ tables_1_2) (g : goodWord w = true) : w ∈ GW := List.mem_filter.mpr ⟨List.mem_append_right _ (List.mem_append_right _ (List.mem_append_left _ h)), g⟩
theorem gw3 {w : Cond} (h : w ∈ tables_1_3) (g : goodWord w = true) : w ∈ GW := List.mem_filter.mpr ⟨List.mem_append_right _ (List.mem_append_right _ (List.mem_append_right _ (List.mem_append_left _ h))), g⟩
theorem gw4 {w : Cond} (h : w ∈ tables_1_4) (g : goodWord w = true) : w ∈ GW := List.mem_filter.mpr ⟨List.mem_append_right _ (List.mem_append_right _ (List.mem_append_right _ (List.mem_append_right _ (List.mem_append_left _ h)))), g⟩
theorem gw5 {w : Cond} (h : w ∈ tables_1_5) (g : goodWord w = true) : w ∈ GW := List.mem_filter.mpr ⟨List.mem_append_right _ (List.mem_append_right _ (List.mem_append_right _ (List.mem_append_right _ (List.mem_append_right _ (List.mem_append_left _ h))))), g⟩
theorem gw6 {w : Cond} (h : w ∈ tables_1_6) (g : goodWord w = true) : w ∈ GW := List.mem_filter.mpr ⟨List.mem_append_right _ (List.mem_append_right _ (List.mem_append_right _ (List.mem_append_right _ (List.mem_append_right _ (List.mem_append_right _ (List.mem_append_left _ h)))))), g⟩
theorem gw7 {w : Cond} (h : w ∈ tables_1_7) (g : goodWord w = true) : w ∈ GW := List.mem_filter.mpr ⟨List.mem_append_right _ (List.mem_append_right _ (List.mem_append_right _ (List.mem_append_right _ (List.mem_append_right _ (List.mem_append_right _ (List.mem_append_right _ (List.mem_append_left _ h))))))), g⟩
theorem gw8 {w : Cond} (h : w ∈ tables_1_8) (g : goodWord w = true) : w ∈ GW := List.mem_filter.mpr ⟨List.mem_append_right _ (List.mem_append_right _ (List.mem_append_right _ (List.mem_append_right _ (List.mem_append_right _ (List.mem_append_right _ (List.mem_append_right _ (List.mem_append_right _ (List.mem_append_left _ h)))))))), g⟩
theorem gw9 {w : Cond} (h : w ∈ tables_1_9) (g : goodWord w = true) : w ∈ GW := List.mem_filter.mpr ⟨List.mem_append_right _ (List.mem_append_right _ (List.mem_append_right _ (List.mem_append_right _ (List.mem_append_right _ (List.mem_append_right _ (List.mem_append_right _ (List.mem_append_right _ (List.mem_append_right _ (List.mem_append_left _ h))))))))), g⟩
theorem gw10 {w : Cond} (h : w ∈ tables_1_10) (g : goodWord w = true) : w ∈ GW := List.mem_filter.mpr ⟨List.mem_append_right _ (List.mem_append_right _ (List.mem_append_right _ (List.mem_append_right _ (List.mem_append_right _ (List.mem_append_right _ (List.mem_append_right _ (List.mem_append_right _ (List.mem_append_right _ (List.mem_append_right _ (h)))))))))), g⟩
/-- the words of links between nest mates -/
def NW : List Cond := [Cond.methodLinkNest RX9 11 yX8_init RX9, Cond.methodLinkNest RX8 20 yX5_init RX9, Cond.methodLinkNest RX8 27 yX0_init RX9, Cond.fieldLinkNest RX4 46 "HammerDepot$State" "hammers" "LHammerDepot$Hammers;" RX9, Cond.fieldLinkNest RX9 137 "HammerDepot$State" "hammers" "LHammerDepot$Hammers;" RX9, Cond.fieldLinkNest RX4 28 "HammerDepot$State" "requests" "LHammerDepot$Requests;" RX9, Cond.fieldLinkNest RX9 218 "HammerDepot$State" "requests" "LHammerDepot$Requests;" RX9, Cond.fieldLinkNest RX9 205 "HammerDepot$State" "bookings" "LHammerDepot$Bookings;" RX9, Cond.fieldLinkNest RX9 311 "HammerDepot$State" "day" "I" RX9, Cond.fieldLinkNest RX9 293 "HammerDepot$State" "coins" "I" RX9, Cond.fieldLinkNest RX9 296 "HammerDepot$State" "bookingCoins" "I" RX9, Cond.fieldLinkNest RX9 299 "HammerDepot$State" "lateCoins" "I" RX9, Cond.fieldLinkNest RX9 302 "HammerDepot$State" "faceCosts" "I" RX9, Cond.fieldLinkNest RX9 305 "HammerDepot$State" "broken" "I" RX9, Cond.fieldLinkNest RX9 308 "HammerDepot$State" "lent" "I" RX9, Cond.methodLinkNest RX3 24 yX8_init RX9, Cond.methodLinkNest RX9 28 yX4_init RX9, Cond.methodLinkNest RX9 35 yX1_init RX9, Cond.methodLinkNest RX9 42 yX6_init RX9, Cond.castable "java/lang/IllegalArgumentException" "java/lang/IllegalArgumentException", Cond.declares ⟨"java/lang/RuntimeException", "<init>", "()V"⟩, Cond.declares ⟨"java/lang/RuntimeException", "<init>", "(Ljava/lang/String;)V"⟩, Cond.declares ⟨"java/lang/Exception", "<init>", "()V"⟩, Cond.declares ⟨"java/lang/Exception", "<init>", "(Ljava/lang/String;)V"⟩, Cond.declares ⟨"java/lang/Throwable", "<init>", "()V"⟩, Cond.declares ⟨"java/lang/Throwable", "<init>", "(Ljava/lang/String;)V"⟩, Cond.castable "java/lang/IndexOutOfBoundsException" "java/lang/IndexOutOfBoundsException", Cond.castable "java/lang/IllegalStateException" "java/lang/IllegalStateException", Cond.castable "java/util/NoSuchElementException" "java/util/NoSuchElementException", Cond.castable "java/lang/UnsupportedOperationException" "java/lang/UnsupportedOperationException", Cond.methodLinkNest RX2 50 yX9_isRack RX9, Cond.methodLinkNest RX2 53 yX9_isPlace RX9, Cond.castable RJx00060 RJx00060, Cond.declares ⟨"java/lang/IndexOutOfBoundsException", "<init>", "()V"⟩, Cond.declares ⟨"java/lang/IndexOutOfBoundsException", "<init>", "(Ljava/lang/String;)V"⟩, Cond.methodLinkNest RX8 64 yX9_isRack RX9, Cond.methodLinkNest RX8 96 yX9_isPlace RX9, Cond.castable "java/lang/ArithmeticException" "java/lang/ArithmeticException", Cond.castable "[B" RJx8e188, Cond.castable RJx00060 "java/lang/IndexOutOfBoundsException", Cond.castable RJx7c733 "java/lang/IndexOutOfBoundsException", Cond.castable RX9 "java/lang/Object", Cond.castable RX8 "java/lang/Object", Cond.castable RX2 "java/lang/Object", Cond.castable RX5 "java/lang/Object", Cond.castable RX0 "java/lang/Object", Cond.castable RX3 "java/lang/Object", Cond.castable RX4 "java/lang/Object", Cond.castable RX1 "java/lang/Object", Cond.castable RX6 "java/lang/Object", Cond.castable RJ4 "java/lang/Object", Cond.castable RX10 "java/lang/Object", Cond.castable RJx00060 "java/lang/Object", Cond.castable "java/lang/IllegalArgumentException" "java/lang/Object", Cond.castable "java/lang/IndexOutOfBoundsException" "java/lang/Object", Cond.castable "java/lang/IllegalStateException" "java/lang/Object", Cond.castable "java/util/NoSuchElementException" "java/lang/Object", Cond.castable "java/lang/UnsupportedOperationException" "java/lang/Object", Cond.castable "java/lang/ArithmeticException" "java/lang/Object", Cond.castable RJx7c733 "java/lang/Object", Cond.castable RJ0 "java/lang/Object", Cond.castable "java/lang/Throwable" "java/lang/Object"]
theorem nw_tbl : ∀ w ∈ NW, w ∈ lw_tbl := by
  have h : ∀ w ∈ NW, w ∈ tables_1 := List.forall_mem_cons.mpr ⟨List.mem_append_left _ (List.mem_of_getElem? (i := 45) (by decide +kernel)), List.forall_mem_cons.mpr ⟨List.mem_append_left _ (List.mem_of_getElem? (i := 83) (by decide +kernel)), List.forall_mem_cons.mpr ⟨List.mem_append_left _ (List.mem_of_getElem? (i := 114) (by decide +kernel)), List.forall_mem_cons.mpr ⟨List.mem_append_left _ (List.mem_of_getElem? (i := 135) (by decide +kernel)), List.forall_mem_cons.mpr ⟨List.mem_append_left _ (List.mem_of_getElem? (i := 136) (by decide +kernel)), List.forall_mem_cons.mpr ⟨List.mem_append_left _ (List.mem_of_getElem? (i := 138) (by decide +kernel)), List.forall_mem_cons.mpr ⟨List.mem_append_left _ (List.mem_of_getElem? (i := 139) (by decide +kernel)), List.forall_mem_cons.mpr ⟨List.mem_append_left _ (List.mem_of_getElem? (i := 141) (by decide +kernel)), List.forall_mem_cons.mpr ⟨List.mem_append_left _ (List.mem_of_getElem? (i := 143) (by decide +kernel)), List.forall_mem_cons.mpr ⟨List.mem_append_left _ (List.mem_of_getElem? (i := 145) (by decide +kernel)), List.forall_mem_cons.mpr ⟨List.mem_append_left _ (List.mem_of_getElem? (i := 147) (by decide +kernel)), List.forall_mem_cons.mpr ⟨List.mem_append_left _ (List.mem_of_getElem? (i := 149) (by decide +kernel)), List.forall_mem_cons.mpr ⟨List.mem_append_left _ (List.mem_of_getElem? (i := 151) (by decide +kernel)), List.forall_mem_cons.mpr ⟨List.mem_append_left _ (List.mem_of_getElem? (i := 153) (by decide +kernel)), List.forall_mem_cons.mpr ⟨List.mem_append_left _ (List.mem_of_getElem? (i := 155) (by decide +kernel)), List.forall_mem_cons.mpr ⟨List.mem_append_left _ (List.mem_of_getElem? (i := 185) (by decide +kernel)), List.forall_mem_cons.mpr ⟨List.mem_append_left _ (List.mem_of_getElem? (i := 198) (by decide +kernel)), List.forall_mem_cons.mpr ⟨List.mem_append_left _ (List.mem_of_getElem? (i := 220) (by decide +kernel)), List.forall_mem_cons.mpr ⟨List.mem_append_left _ (List.mem_of_getElem? (i := 239) (by decide +kernel)), List.forall_mem_cons.mpr ⟨List.mem_append_right _ (List.mem_append_right _ (List.mem_append_left _ (List.mem_of_getElem? (i := 11) (by decide +kernel)))), List.forall_mem_cons.mpr ⟨List.mem_append_right _ (List.mem_append_right _ (List.mem_append_left _ (List.mem_of_getElem? (i := 12) (by decide +kernel)))), List.forall_mem_cons.mpr ⟨List.mem_append_right _ (List.mem_append_right _ (List.mem_append_left _ (List.mem_of_getElem? (i := 13) (by decide +kernel)))), List.forall_mem_cons.mpr ⟨List.mem_append_right _ (List.mem_append_right _ (List.mem_append_left _ (List.mem_of_getElem? (i := 14) (by decide +kernel)))), List.forall_mem_cons.mpr ⟨List.mem_append_right _ (List.mem_append_right _ (List.mem_append_left _ (List.mem_of_getElem? (i := 15) (by decide +kernel)))), List.forall_mem_cons.mpr ⟨List.mem_append_right _ (List.mem_append_right _ (List.mem_append_left _ (List.mem_of_getElem? (i := 16) (by decide +kernel)))), List.forall_mem_cons.mpr ⟨List.mem_append_right _ (List.mem_append_right _ (List.mem_append_left _ (List.mem_of_getElem? (i := 17) (by decide +kernel)))), List.forall_mem_cons.mpr ⟨List.mem_append_right _ (List.mem_append_right _ (List.mem_append_left _ (List.mem_of_getElem? (i := 83) (by decide +kernel)))), List.forall_mem_cons.mpr ⟨List.mem_append_right _ (List.mem_append_right _ (List.mem_append_left _ (List.mem_of_getElem? (i := 99) (by decide +kernel)))), List.forall_mem_cons.mpr ⟨List.mem_append_right _ (List.mem_append_right _ (List.mem_append_left _ (List.mem_of_getElem? (i := 115) (by decide +kernel)))), List.forall_mem_cons.mpr ⟨List.mem_append_right _ (List.mem_append_right _ (List.mem_append_left _ (List.mem_of_getElem? (i := 131) (by decide +kernel)))), List.forall_mem_cons.mpr ⟨List.mem_append_right _ (List.mem_append_right _ (List.mem_append_right _ (List.mem_append_left _ (List.mem_of_getElem? (i := 36) (by decide +kernel))))), List.forall_mem_cons.mpr ⟨List.mem_append_right _ (List.mem_append_right _ (List.mem_append_right _ (List.mem_append_left _ (List.mem_of_getElem? (i := 39) (by decide +kernel))))), List.forall_mem_cons.mpr ⟨List.mem_append_right _ (List.mem_append_right _ (List.mem_append_right _ (List.mem_append_left _ (List.mem_of_getElem? (i := 107) (by decide +kernel))))), List.forall_mem_cons.mpr ⟨List.mem_append_right _ (List.mem_append_right _ (List.mem_append_right _ (List.mem_append_left _ (List.mem_of_getElem? (i := 108) (by decide +kernel))))), List.forall_mem_cons.mpr ⟨List.mem_append_right _ (List.mem_append_right _ (List.mem_append_right _ (List.mem_append_left _ (List.mem_of_getElem? (i := 109) (by decide +kernel))))), List.forall_mem_cons.mpr ⟨List.mem_append_right _ (List.mem_append_right _ (List.mem_append_right _ (List.mem_append_left _ (List.mem_of_getElem? (i := 125) (by decide +kernel))))), List.forall_mem_cons.mpr ⟨List.mem_append_right _ (List.mem_append_right _ (List.mem_append_right _ (List.mem_append_left _ (List.mem_of_getElem? (i := 171) (by decide +kernel))))), List.forall_mem_cons.mpr ⟨List.mem_append_right _ (List.mem_append_right _ (List.mem_append_right _ (List.mem_append_right _ (List.mem_append_right _ (List.mem_append_left _ (List.mem_of_getElem? (i := 73) (by decide +kernel))))))), List.forall_mem_cons.mpr ⟨List.mem_append_right _ (List.mem_append_right _ (List.mem_append_right _ (List.mem_append_right _ (List.mem_append_right _ (List.mem_append_left _ (List.mem_of_getElem? (i := 156) (by decide +kernel))))))), List.forall_mem_cons.mpr ⟨List.mem_append_right _ (List.mem_append_right _ (List.mem_append_right _ (List.mem_append_right _ (List.mem_append_right _ (List.mem_append_right _ (List.mem_append_right _ (List.mem_append_right _ (List.mem_append_right _ ((List.mem_of_getElem? (i := 164) (by decide +kernel))))))))))), List.forall_mem_cons.mpr ⟨List.mem_append_right _ (List.mem_append_right _ (List.mem_append_right _ (List.mem_append_right _ (List.mem_append_right _ (List.mem_append_right _ (List.mem_append_right _ (List.mem_append_right _ (List.mem_append_right _ ((List.mem_of_getElem? (i := 165) (by decide +kernel))))))))))), List.forall_mem_cons.mpr ⟨List.mem_append_right _ (List.mem_append_right _ (List.mem_append_right _ (List.mem_append_right _ (List.mem_append_right _ (List.mem_append_right _ (List.mem_append_right _ (List.mem_append_right _ (List.mem_append_right _ ((List.mem_of_getElem? (i := 166) (by decide +kernel))))))))))), List.forall_mem_cons.mpr ⟨List.mem_append_right _ (List.mem_append_right _ (List.mem_append_right _ (List.mem_append_right _ (List.mem_append_right _ (List.mem_append_right _ (List.mem_append_right _ (List.mem_append_right _ (List.mem_append_right _ ((List.mem_of_getElem? (i := 167) (by decide +kernel))))))))))), List.forall_mem_cons.mpr ⟨List.mem_append_right _ (List.mem_append_right _ (List.mem_append_right _ (List.mem_append_right _ (List.mem_append_right _ (List.mem_append_right _ (List.mem_append_right _ (List.mem_append_right _ (List.mem_append_right _ ((List.mem_of_getElem? (i := 168) (by decide +kernel))))))))))), List.forall_mem_cons.mpr ⟨List.mem_append_right _ (List.mem_append_right _ (List.mem_append_right _ (List.mem_append_right _ (List.mem_append_right _ (List.mem_append_right _ (List.mem_append_right _ (List.mem_append_right _ (List.mem_append_right _ ((List.mem_of_getElem? (i := 169) (by decide +kernel))))))))))), List.forall_mem_cons.mpr ⟨List.mem_append_right _ (List.mem_append_right _ (List.mem_append_right _ (List.mem_append_right _ (List.mem_append_right _ (List.mem_append_right _ (List.mem_append_right _ (List.mem_append_right _ (List.mem_append_right _ ((List.mem_of_getElem? (i := 170) (by decide +kernel))))))))))), List.forall_mem_cons.mpr ⟨List.mem_append_right _ (List.mem_append_right _ (List.mem_append_right _ (List.mem_append_right _ (List.mem_append_right _ (List.mem_append_right _ (List.mem_append_right _ (List.mem_append_right _ (List.mem_append_right _ ((List.mem_of_getElem? (i := 171) (by decide +kernel))))))))))), List.forall_mem_cons.mpr ⟨List.mem_append_right _ (List.mem_append_right _ (List.mem_append_right _ (List.mem_append_right _ (List.mem_append_right _ (List.mem_append_right _ (List.mem_append_right _ (List.mem_append_right _ (List.mem_append_right _ ((List.mem_of_getElem? (i := 172) (by decide +kernel))))))))))), List.forall_mem_cons.mpr ⟨List.mem_append_right _ (List.mem_append_right _ (List.mem_append_right _ (List.mem_append_right _ (List.mem_append_right _ (List.mem_append_right _ (List.mem_append_right _ (List.mem_append_right _ (List.mem_append_right _ ((List.mem_of_getElem? (i := 173) (by decide +kernel))))))))))), List.forall_mem_cons.mpr ⟨List.mem_append_right _ (List.mem_append_right _ (List.mem_append_right _ (List.mem_append_right _ (List.mem_append_right _ (List.mem_append_right _ (List.mem_append_right _ (List.mem_append_right _ (List.mem_append_right _ ((List.mem_of_getElem? (i := 174) (by decide +kernel))))))))))), List.forall_mem_cons.mpr ⟨List.mem_append_right _ (List.mem_append_right _ (List.mem_append_right _ (List.mem_append_right _ (List.mem_append_right _ (List.mem_append_right _ (List.mem_append_right _ (List.mem_append_right _ (List.mem_append_right _ ((List.mem_of_getElem? (i := 175) (by decide +kernel))))))))))), List.forall_mem_cons.mpr ⟨List.mem_append_right _ (List.mem_append_right _ (List.mem_append_right _ (List.mem_append_right _ (List.mem_append_right _ (List.mem_append_right _ (List.mem_append_right _ (List.mem_append_right _ (List.mem_append_right _ ((List.mem_of_getElem? (i := 176) (by decide +kernel))))))))))), List.forall_mem_cons.mpr ⟨List.mem_append_right _ (List.mem_append_right _ (List.mem_append_right _ (List.mem_append_right _ (List.mem_append_right _ (List.mem_append_right _ (List.mem_append_right _ (List.mem_append_right _ (List.mem_append_right _ ((List.mem_of_getElem? (i := 177) (by decide +kernel))))))))))), List.forall_mem_cons.mpr ⟨List.mem_append_right _ (List.mem_append_right _ (List.mem_append_right _ (List.mem_append_right _ (List.mem_append_right _ (List.mem_append_right _ (List.mem_append_right _ (List.mem_append_right _ (List.mem_append_right _ ((List.mem_of_getElem? (i := 178) (by decide +kernel))))))))))), List.forall_mem_cons.mpr ⟨List.mem_append_right _ (List.mem_append_right _ (List.mem_append_right _ (List.mem_append_right _ (List.mem_append_right _ (List.mem_append_right _ (List.mem_append_right _ (List.mem_append_right _ (List.mem_append_right _ ((List.mem_of_getElem? (i := 179) (by decide +kernel))))))))))), List.forall_mem_cons.mpr ⟨List.mem_append_right _ (List.mem_append_right _ (List.mem_append_right _ (List.mem_append_right _ (List.mem_append_right _ (List.mem_append_right _ (List.mem_append_right _ (List.mem_append_right _ (List.mem_append_right _ ((List.mem_of_getElem? (i := 180) (by decide +kernel))))))))))), List.forall_mem_cons.mpr ⟨List.mem_append_right _ (List.mem_append_right _ (List.mem_append_right _ (List.mem_append_right _ (List.mem_append_right _ (List.mem_append_right _ (List.mem_append_right _ (List.mem_append_right _ (List.mem_append_right _ ((List.mem_of_getElem? (i := 181) (by decide +kernel))))))))))), List.forall_mem_cons.mpr ⟨List.mem_append_right _ (List.mem_append_right _ (List.mem_append_right _ (List.mem_append_right _ (List.mem_append_right _ (List.mem_append_right _ (List.mem_append_right _ (List.mem_append_right _ (List.mem_append_right _ ((List.mem_of_getElem? (i := 182) (by decide +kernel))))))))))), List.forall_mem_cons.mpr ⟨List.mem_append_right _ (List.mem_append_right _ (List.mem_append_right _ (List.mem_append_right _ (List.mem_append_right _ (List.mem_append_right _ (List.mem_append_right _ (List.mem_append_right _ (List.mem_append_right _ ((List.mem_of_getElem? (i := 183) (by decide +kernel))))))))))), List.forall_mem_cons.mpr ⟨List.mem_append_right _ (List.mem_append_right _ (List.mem_append_right _ (List.mem_append_right _ (List.mem_append_right _ (List.mem_append_right _ (List.mem_append_right _ (List.mem_append_right _ (List.mem_append_right _ ((List.mem_of_getElem? (i := 184) (by decide +kernel))))))))))), List.forall_mem_cons.mpr ⟨List.mem_append_right _ (List.mem_append_right _ (List.mem_append_right _ (List.mem_append_right _ (List.mem_append_right _ (List.mem_append_right _ (List.mem_append_right _ (List.mem_append_right _ (List.mem_append_right _ ((List.mem_of_getElem? (i := 185) (by decide +kernel))))))))))), List.forall_mem_cons.mpr ⟨List.mem_append_right _ (List.mem_append_right _ (List.mem_append_right _ (List.mem_append_right _ (List.mem_append_right _ (List.mem_append_right _ (List.mem_append_right _ (List.mem_append_right _ (List.mem_append_right _ ((List.mem_of_getElem? (i := 186) (by decide +kernel))))))))))), fun _ h => absurd h List.not_mem_nil⟩⟩⟩⟩⟩⟩⟩⟩⟩⟩⟩⟩⟩⟩⟩⟩⟩⟩⟩⟩⟩⟩⟩⟩⟩⟩⟩⟩⟩⟩⟩⟩⟩⟩⟩⟩⟩⟩⟩⟩⟩⟩⟩⟩⟩⟩⟩⟩⟩⟩⟩⟩⟩⟩⟩⟩⟩⟩⟩⟩⟩⟩
  exact fun w hw => List.mem_append_right _ (h w hw)
theorem nw_warm {s U : State} : ∀ w ∈ NW, s.WarmedH U.vm → va_Nw w s → va_Nw w U := List.forall_mem_cons.mpr ⟨fun hW hZ => va_Nw.warmM hW hZ, List.forall_mem_cons.mpr ⟨fun hW hZ => va_Nw.warmM hW hZ, List.forall_mem_cons.mpr ⟨fun hW hZ => va_Nw.warmM hW hZ, List.forall_mem_cons.mpr ⟨fun hW hZ => va_Nw.warmF hW hZ, List.forall_mem_cons.mpr ⟨fun hW hZ => va_Nw.warmF hW hZ, List.forall_mem_cons.mpr ⟨fun hW hZ => va_Nw.warmF hW hZ, List.forall_mem_cons.mpr ⟨fun hW hZ => va_Nw.warmF hW hZ, List.forall_mem_cons.mpr ⟨fun hW hZ => va_Nw.warmF hW hZ, List.forall_mem_cons.mpr ⟨fun hW hZ => va_Nw.warmF hW hZ, List.forall_mem_cons.mpr ⟨fun hW hZ => va_Nw.warmF hW hZ, List.forall_mem_cons.mpr ⟨fun hW hZ => va_Nw.warmF hW hZ, List.forall_mem_cons.mpr ⟨fun hW hZ => va_Nw.warmF hW hZ, List.forall_mem_cons.mpr ⟨fun hW hZ => va_Nw.warmF hW hZ, List.forall_mem_cons.mpr ⟨fun hW hZ => va_Nw.warmF hW hZ, List.forall_mem_cons.mpr ⟨fun hW hZ => va_Nw.warmF hW hZ, List.forall_mem_cons.mpr ⟨fun hW hZ => va_Nw.warmM hW hZ, List.forall_mem_cons.mpr ⟨fun hW hZ => va_Nw.warmM hW hZ, List.forall_mem_cons.mpr ⟨fun hW hZ => va_Nw.warmM hW hZ, List.forall_mem_cons.mpr ⟨fun hW hZ => va_Nw.warmM hW hZ, List.forall_mem_cons.mpr ⟨fun hW hZ => va_Nw.warmC hW hZ, List.forall_mem_cons.mpr ⟨fun hW hZ => va_Nw.warmD hW hZ, List.forall_mem_cons.mpr ⟨fun hW hZ => va_Nw.warmD hW hZ, List.forall_mem_cons.mpr ⟨fun hW hZ => va_Nw.warmD hW hZ, List.forall_mem_cons.mpr ⟨fun hW hZ => va_Nw.warmD hW hZ, List.forall_mem_cons.mpr ⟨fun hW hZ => va_Nw.warmD hW hZ, List.forall_mem_cons.mpr ⟨fun hW hZ => va_Nw.warmD hW hZ, List.forall_mem_cons.mpr ⟨fun hW hZ => va_Nw.warmC hW hZ, List.forall_mem_cons.mpr ⟨fun hW hZ => va_Nw.warmC hW hZ, List.forall_mem_cons.mpr ⟨fun hW hZ => va_Nw.warmC hW hZ, List.forall_mem_cons.mpr ⟨fun hW hZ => va_Nw.warmC hW hZ, List.forall_mem_cons.mpr ⟨fun hW hZ => va_Nw.warmM hW hZ, List.forall_mem_cons.mpr ⟨fun hW hZ => va_Nw.warmM hW hZ, List.forall_mem_cons.mpr ⟨fun hW hZ => va_Nw.warmC hW hZ, List.forall_mem_cons.mpr ⟨fun hW hZ => va_Nw.warmD hW hZ, List.forall_mem_cons.mpr ⟨fun hW hZ => va_Nw.warmD hW hZ, List.forall_mem_cons.mpr ⟨fun hW hZ => va_Nw.warmM hW hZ, List.forall_mem_cons.mpr ⟨fun hW hZ => va_Nw.warmM hW hZ, List.forall_mem_cons.mpr ⟨fun hW hZ => va_Nw.warmC hW hZ, List.forall_mem_cons.mpr ⟨fun hW hZ => va_Nw.warmC hW hZ, List.forall_mem_cons.mpr ⟨fun hW hZ => va_Nw.warmC hW hZ, List.forall_mem_cons.mpr ⟨fun hW hZ => va_Nw.warmC hW hZ, List.forall_mem_cons.mpr ⟨fun hW hZ => va_Nw.warmC hW hZ, List.forall_mem_cons.mpr ⟨fun hW hZ => va_Nw.warmC hW hZ, List.forall_mem_cons.mpr ⟨fun hW hZ => va_Nw.warmC hW hZ, List.forall_mem_cons.mpr ⟨fun hW hZ => va_Nw.warmC hW hZ, List.forall_mem_cons.mpr ⟨fun hW hZ => va_Nw.warmC hW hZ, List.forall_mem_cons.mpr ⟨fun hW hZ => va_Nw.warmC hW hZ, List.forall_mem_cons.mpr ⟨fun hW hZ => va_Nw.warmC hW hZ, List.forall_mem_cons.mpr ⟨fun hW hZ => va_Nw.warmC hW hZ, List.forall_mem_cons.mpr ⟨fun hW hZ => va_Nw.warmC hW hZ, List.forall_mem_cons.mpr ⟨fun hW hZ => va_Nw.warmC hW hZ, List.forall_mem_cons.mpr ⟨fun hW hZ => va_Nw.warmC hW hZ, List.forall_mem_cons.mpr ⟨fun hW hZ => va_Nw.warmC hW hZ, List.forall_mem_cons.mpr ⟨fun hW hZ => va_Nw.warmC hW hZ, List.forall_mem_cons.mpr ⟨fun hW hZ => va_Nw.warmC hW hZ, List.forall_mem_cons.mpr ⟨fun hW hZ => va_Nw.warmC hW hZ, List.forall_mem_cons.mpr ⟨fun hW hZ => va_Nw.warmC hW hZ, List.forall_mem_cons.mpr ⟨fun hW hZ => va_Nw.warmC hW hZ, List.forall_mem_cons.mpr ⟨fun hW hZ => va_Nw.warmC hW hZ, List.forall_mem_cons.mpr ⟨fun hW hZ => va_Nw.warmC hW hZ, List.forall_mem_cons.mpr ⟨fun hW hZ => va_Nw.warmC hW hZ, List.forall_mem_cons.mpr ⟨fun hW hZ => va_Nw.warmC hW hZ, fun _ h => absurd h List.not_mem_nil⟩⟩⟩⟩⟩⟩⟩⟩⟩⟩⟩⟩⟩⟩⟩⟩⟩⟩⟩⟩⟩⟩⟩⟩⟩⟩⟩⟩⟩⟩⟩⟩⟩⟩⟩⟩⟩⟩⟩⟩⟩⟩⟩⟩⟩⟩⟩⟩⟩⟩⟩⟩⟩⟩⟩⟩⟩⟩⟩⟩⟩⟩
theorem q45 : Cond.methodLinkNest RX9 11 yX8_init RX9 ∈ NW := List.mem_of_getElem? (i := 0) (by decide +kernel)
theorem q67 : Cond.methodLinkNest RX8 20 yX5_init RX9 ∈ NW := List.mem_of_getElem? (i := 1) (by decide +kernel)
theorem q81 : Cond.methodLinkNest RX8 27 yX0_init RX9 ∈ NW := List.mem_of_getElem? (i := 2) (by decide +kernel)
theorem q91 : Cond.fieldLinkNest RX4 46 "HammerDepot$State" "hammers" "LHammerDepot$Hammers;" RX9 ∈ NW := List.mem_of_getElem? (i := 3) (by decide +kernel)
theorem q92 : Cond.fieldLinkNest RX9 137 "HammerDepot$State" "hammers" "LHammerDepot$Hammers;" RX9 ∈ NW := List.mem_of_getElem? (i := 4) (by decide +kernel)
theorem q94 : Cond.fieldLinkNest RX4 28 "HammerDepot$State" "requests" "LHammerDepot$Requests;" RX9 ∈ NW := List.mem_of_getElem? (i := 5) (by decide +kernel)
theorem q95 : Cond.fieldLinkNest RX9 218 "HammerDepot$State" "requests" "LHammerDepot$Requests;" RX9 ∈ NW := List.mem_of_getElem? (i := 6) (by decide +kernel)
theorem q97 : Cond.fieldLinkNest RX9 205 "HammerDepot$State" "bookings" "LHammerDepot$Bookings;" RX9 ∈ NW := List.mem_of_getElem? (i := 7) (by decide +kernel)
theorem q99 : Cond.fieldLinkNest RX9 311 "HammerDepot$State" "day" "I" RX9 ∈ NW := List.mem_of_getElem? (i := 8) (by decide +kernel)
theorem q101 : Cond.fieldLinkNest RX9 293 "HammerDepot$State" "coins" "I" RX9 ∈ NW := List.mem_of_getElem? (i := 9) (by decide +kernel)
theorem q103 : Cond.fieldLinkNest RX9 296 "HammerDepot$State" "bookingCoins" "I" RX9 ∈ NW := List.mem_of_getElem? (i := 10) (by decide +kernel)
theorem q105 : Cond.fieldLinkNest RX9 299 "HammerDepot$State" "lateCoins" "I" RX9 ∈ NW := List.mem_of_getElem? (i := 11) (by decide +kernel)
theorem q107 : Cond.fieldLinkNest RX9 302 "HammerDepot$State" "faceCosts" "I" RX9 ∈ NW := List.mem_of_getElem? (i := 12) (by decide +kernel)
theorem q109 : Cond.fieldLinkNest RX9 305 "HammerDepot$State" "broken" "I" RX9 ∈ NW := List.mem_of_getElem? (i := 13) (by decide +kernel)
theorem q111 : Cond.fieldLinkNest RX9 308 "HammerDepot$State" "lent" "I" RX9 ∈ NW := List.mem_of_getElem? (i := 14) (by decide +kernel)
theorem q119 : Cond.methodLinkNest RX3 24 yX8_init RX9 ∈ NW := List.mem_of_getElem? (i := 15) (by decide +kernel)
theorem q125 : Cond.methodLinkNest RX9 28 yX4_init RX9 ∈ NW := List.mem_of_getElem? (i := 16) (by decide +kernel)
theorem q136 : Cond.methodLinkNest RX9 35 yX1_init RX9 ∈ NW := List.mem_of_getElem? (i := 17) (by decide +kernel)
theorem q146 : Cond.methodLinkNest RX9 42 yX6_init RX9 ∈ NW := List.mem_of_getElem? (i := 18) (by decide +kernel)
theorem q343 : Cond.castable "java/lang/IllegalArgumentException" "java/lang/IllegalArgumentException" ∈ NW := List.mem_of_getElem? (i := 19) (by decide +kernel)
theorem q344 : Cond.declares ⟨"java/lang/RuntimeException", "<init>", "()V"⟩ ∈ NW := List.mem_of_getElem? (i := 20) (by decide +kernel)
theorem q345 : Cond.declares ⟨"java/lang/RuntimeException", "<init>", "(Ljava/lang/String;)V"⟩ ∈ NW := List.mem_of_getElem? (i := 21) (by decide +kernel)
theorem q346 : Cond.declares ⟨"java/lang/Exception", "<init>", "()V"⟩ ∈ NW := List.mem_of_getElem? (i := 22) (by decide +kernel)
theorem q347 : Cond.declares ⟨"java/lang/Exception", "<init>", "(Ljava/lang/String;)V"⟩ ∈ NW := List.mem_of_getElem? (i := 23) (by decide +kernel)
theorem q348 : Cond.declares ⟨"java/lang/Throwable", "<init>", "()V"⟩ ∈ NW := List.mem_of_getElem? (i := 24) (by decide +kernel)
theorem q349 : Cond.declares ⟨"java/lang/Throwable", "<init>", "(Ljava/lang/String;)V"⟩ ∈ NW := List.mem_of_getElem? (i := 25) (by decide +kernel)
theorem q390 : Cond.castable "java/lang/IndexOutOfBoundsException" "java/lang/IndexOutOfBoundsException" ∈ NW := List.mem_of_getElem? (i := 26) (by decide +kernel)
theorem q398 : Cond.castable "java/lang/IllegalStateException" "java/lang/IllegalStateException" ∈ NW := List.mem_of_getElem? (i := 27) (by decide +kernel)
theorem q406 : Cond.castable "java/util/NoSuchElementException" "java/util/NoSuchElementException" ∈ NW := List.mem_of_getElem? (i := 28) (by decide +kernel)
theorem q414 : Cond.castable "java/lang/UnsupportedOperationException" "java/lang/UnsupportedOperationException" ∈ NW := List.mem_of_getElem? (i := 29) (by decide +kernel)
theorem q543 : Cond.methodLinkNest RX2 50 yX9_isRack RX9 ∈ NW := List.mem_of_getElem? (i := 30) (by decide +kernel)
theorem q546 : Cond.methodLinkNest RX2 53 yX9_isPlace RX9 ∈ NW := List.mem_of_getElem? (i := 31) (by decide +kernel)
theorem q604 : Cond.castable RJx00060 RJx00060 ∈ NW := List.mem_of_getElem? (i := 32) (by decide +kernel)
theorem q605 : Cond.declares ⟨"java/lang/IndexOutOfBoundsException", "<init>", "()V"⟩ ∈ NW := List.mem_of_getElem? (i := 33) (by decide +kernel)
theorem q606 : Cond.declares ⟨"java/lang/IndexOutOfBoundsException", "<init>", "(Ljava/lang/String;)V"⟩ ∈ NW := List.mem_of_getElem? (i := 34) (by decide +kernel)
theorem q618 : Cond.methodLinkNest RX8 64 yX9_isRack RX9 ∈ NW := List.mem_of_getElem? (i := 35) (by decide +kernel)
theorem q664 : Cond.methodLinkNest RX8 96 yX9_isPlace RX9 ∈ NW := List.mem_of_getElem? (i := 36) (by decide +kernel)
theorem q1018 : Cond.castable "java/lang/ArithmeticException" "java/lang/ArithmeticException" ∈ NW := List.mem_of_getElem? (i := 37) (by decide +kernel)
theorem q1095 : Cond.castable "[B" RJx8e188 ∈ NW := List.mem_of_getElem? (i := 38) (by decide +kernel)
theorem q1893 : Cond.castable RJx00060 "java/lang/IndexOutOfBoundsException" ∈ NW := List.mem_of_getElem? (i := 39) (by decide +kernel)
theorem q1894 : Cond.castable RJx7c733 "java/lang/IndexOutOfBoundsException" ∈ NW := List.mem_of_getElem? (i := 40) (by decide +kernel)
theorem q1895 : Cond.castable RX9 "java/lang/Object" ∈ NW := List.mem_of_getElem? (i := 41) (by decide +kernel)
theorem q1896 : Cond.castable RX8 "java/lang/Object" ∈ NW := List.mem_of_getElem? (i := 42) (by decide +kernel)
theorem q1897 : Cond.castable RX2 "java/lang/Object" ∈ NW := List.mem_of_getElem? (i := 43) (by decide +kernel)
theorem q1898 : Cond.castable RX5 "java/lang/Object" ∈ NW := List.mem_of_getElem? (i := 44) (by decide +kernel)
theorem q1899 : Cond.castable RX0 "java/lang/Object" ∈ NW := List.mem_of_getElem? (i := 45) (by decide +kernel)
theorem q1900 : Cond.castable RX3 "java/lang/Object" ∈ NW := List.mem_of_getElem? (i := 46) (by decide +kernel)
theorem q1901 : Cond.castable RX4 "java/lang/Object" ∈ NW := List.mem_of_getElem? (i := 47) (by decide +kernel)
theorem q1902 : Cond.castable RX1 "java/lang/Object" ∈ NW := List.mem_of_getElem? (i := 48) (by decide +kernel)
theorem q1903 : Cond.castable RX6 "java/lang/Object" ∈ NW := List.mem_of_getElem? (i := 49) (by decide +kernel)
theorem q1904 : Cond.castable RJ4 "java/lang/Object" ∈ NW := List.mem_of_getElem? (i := 50) (by decide +kernel)
theorem q1905 : Cond.castable RX10 "java/lang/Object" ∈ NW := List.mem_of_getElem? (i := 51) (by decide +kernel)
theorem q1906 : Cond.castable RJx00060 "java/lang/Object" ∈ NW := List.mem_of_getElem? (i := 52) (by decide +kernel)
theorem q1907 : Cond.castable "java/lang/IllegalArgumentException" "java/lang/Object" ∈ NW := List.mem_of_getElem? (i := 53) (by decide +kernel)
theorem q1908 : Cond.castable "java/lang/IndexOutOfBoundsException" "java/lang/Object" ∈ NW := List.mem_of_getElem? (i := 54) (by decide +kernel)
theorem q1909 : Cond.castable "java/lang/IllegalStateException" "java/lang/Object" ∈ NW := List.mem_of_getElem? (i := 55) (by decide +kernel)
theorem q1910 : Cond.castable "java/util/NoSuchElementException" "java/lang/Object" ∈ NW := List.mem_of_getElem? (i := 56) (by decide +kernel)
theorem q1911 : Cond.castable "java/lang/UnsupportedOperationException" "java/lang/Object" ∈ NW := List.mem_of_getElem? (i := 57) (by decide +kernel)
theorem q1912 : Cond.castable "java/lang/ArithmeticException" "java/lang/Object" ∈ NW := List.mem_of_getElem? (i := 58) (by decide +kernel)
theorem q1913 : Cond.castable RJx7c733 "java/lang/Object" ∈ NW := List.mem_of_getElem? (i := 59) (by decide +kernel)
theorem q1914 : Cond.castable RJ0 "java/lang/Object" ∈ NW := List.mem_of_getElem? (i := 60) (by decide +kernel)
theorem q1915 : Cond.castable "java/lang/Throwable" "java/lang/Object" ∈ NW := List.mem_of_getElem? (i := 61) (by decide +kernel)
theorem q0 : Cond.initialized RL ∈ GW := gw1 (List.mem_of_getElem? (i := 0) (by decide +kernel)) rfl
theorem q1 : Cond.initialized RX9 ∈ GW := gw1 (List.mem_of_getElem? (i := 1) (by decide +kernel)) rfl
theorem q2 : Cond.initialized RX8 ∈ GW := gw1 (List.mem_of_getElem? (i := 2) (by decide +kernel)) rfl
theorem q3 : Cond.initialized RX2 ∈ GW := gw1 (List.mem_of_getElem? (i := 3) (by decide +kernel)) rfl
theorem q4 : Cond.initialized RJ7 ∈ GW := gw1 (List.mem_of_getElem? (i := 4) (by decide +kernel)) rfl
theorem q5 : Cond.initialized RX5 ∈ GW := gw1 (List.mem_of_getElem? (i := 5) (by decide +kernel)) rfl
theorem q6 : Cond.initialized RX0 ∈ GW := gw1 (List.mem_of_getElem? (i := 6) (by decide +kernel)) rfl
theorem q7 : Cond.initialized RX3 ∈ GW := gw1 (List.mem_of_getElem? (i := 7) (by decide +kernel)) rfl
theorem q8 : Cond.initialized RX4 ∈ GW := gw1 (List.mem_of_getElem? (i := 8) (by decide +kernel)) rfl
theorem q9 : Cond.initialized RX1 ∈ GW := gw1 (List.mem_of_getElem? (i := 9) (by decide +kernel)) rfl
theorem q10 : Cond.initialized RX6 ∈ GW := gw1 (List.mem_of_getElem? (i := 10) (by decide +kernel)) rfl
theorem q11 : Cond.initialized RJ5 ∈ GW := gw1 (List.mem_of_getElem? (i := 11) (by decide +kernel)) rfl
theorem q12 : Cond.initialized RJ4 ∈ GW := gw1 (List.mem_of_getElem? (i := 12) (by decide +kernel)) rfl
theorem q13 : Cond.initialized RJ0 ∈ GW := gw1 (List.mem_of_getElem? (i := 13) (by decide +kernel)) rfl
theorem q14 : Cond.initialized RJ2 ∈ GW := gw1 (List.mem_of_getElem? (i := 14) (by decide +kernel)) rfl
theorem q15 : Cond.initialized RX10 ∈ GW := gw1 (List.mem_of_getElem? (i := 15) (by decide +kernel)) rfl
theorem q16 : Cond.initialized "java/lang/Throwable" ∈ GW := gw1 (List.mem_of_getElem? (i := 16) (by decide +kernel)) rfl
theorem q17 : Cond.initialized "java/lang/Exception" ∈ GW := gw1 (List.mem_of_getElem? (i := 17) (by decide +kernel)) rfl
theorem q18 : Cond.initialized "java/lang/RuntimeException" ∈ GW := gw1 (List.mem_of_getElem? (i := 18) (by decide +kernel)) rfl
theorem q19 : Cond.initialized "java/lang/IndexOutOfBoundsException" ∈ GW := gw1 (List.mem_of_getElem? (i := 19) (by decide +kernel)) rfl
theorem q20 : Cond.initialized RJx00060 ∈ GW := gw1 (List.mem_of_getElem? (i := 20) (by decide +kernel)) rfl
theorem q21 : Cond.initialized RJ10 ∈ GW := gw1 (List.mem_of_getElem? (i := 21) (by decide +kernel)) rfl
theorem q22 : Cond.initialized RJ9 ∈ GW := gw1 (List.mem_of_getElem? (i := 22) (by decide +kernel)) rfl
theorem q23 : Cond.initialized "java/lang/IllegalArgumentException" ∈ GW := gw1 (List.mem_of_getElem? (i := 23) (by decide +kernel)) rfl
theorem q24 : Cond.initialized "java/lang/IllegalStateException" ∈ GW := gw1 (List.mem_of_getElem? (i := 24) (by decide +kernel)) rfl
theorem q25 : Cond.initialized "java/util/NoSuchElementException" ∈ GW := gw1 (List.mem_of_getElem? (i := 25) (by decide +kernel)) rfl
theorem q26 : Cond.initialized "java/lang/UnsupportedOperationException" ∈ GW := gw1 (List.mem_of_getElem? (i := 26) (by decide +kernel)) rfl
theorem q27 : Cond.initialized RX7 ∈ GW := gw1 (List.mem_of_getElem? (i := 27) (by decide +kernel)) rfl
theorem q28 : Cond.initialized RJxd2413 ∈ GW := gw1 (List.mem_of_getElem? (i := 28) (by decide +kernel)) rfl
theorem q29 : Cond.initialized RJ6 ∈ GW := gw1 (List.mem_of_getElem? (i := 29) (by decide +kernel)) rfl
theorem q30 : Cond.initialized "java/lang/ArithmeticException" ∈ GW := gw1 (List.mem_of_getElem? (i := 30) (by decide +kernel)) rfl
theorem q31 : Cond.initialized RJx7c733 ∈ GW := gw1 (List.mem_of_getElem? (i := 31) (by decide +kernel)) rfl
theorem q32 : Cond.initialized RJ8 ∈ GW := gw1 (List.mem_of_getElem? (i := 32) (by decide +kernel)) rfl
theorem q33 : Cond.initialized RJ3 ∈ GW := gw1 (List.mem_of_getElem? (i := 33) (by decide +kernel)) rfl
theorem q34 : Cond.initialized RJ1 ∈ GW := gw1 (List.mem_of_getElem? (i := 34) (by decide +kernel)) rfl
theorem q35 : Cond.classLink RL 8 RX9 ∈ GW := gw1 (List.mem_of_getElem? (i := 35) (by decide +kernel)) rfl
theorem q36 : Cond.instantiable RX9 10 ∈ GW := gw1 (List.mem_of_getElem? (i := 36) (by decide +kernel)) rfl
theorem q37 : Cond.methodLink RL 155 yX9_init ∈ GW := gw1 (List.mem_of_getElem? (i := 37) (by decide +kernel)) rfl
theorem q38 : Cond.instanceMethod yX9_init ∈ GW := gw1 (List.mem_of_getElem? (i := 38) (by decide +kernel)) rfl
theorem q39 : Cond.code yX9_init cX9_init 1 none ∈ GW := gw1 (List.mem_of_getElem? (i := 39) (by decide +kernel)) rfl
theorem q40 : Cond.methodLink RX9 3 ⟨"java/lang/Object", "<init>", "()V"⟩ ∈ GW := gw1 (List.mem_of_getElem? (i := 40) (by decide +kernel)) rfl
theorem q41 : Cond.instanceMethod ⟨"java/lang/Object", "<init>", "()V"⟩ ∈ GW := gw1 (List.mem_of_getElem? (i := 41) (by decide +kernel)) rfl
theorem q42 : Cond.code ⟨"java/lang/Object", "<init>", "()V"⟩ object_method_1_code 1 none ∈ GW := gw1 (List.mem_of_getElem? (i := 42) (by decide +kernel)) rfl
theorem q43 : Cond.classLink RX9 9 RX8 ∈ GW := gw1 (List.mem_of_getElem? (i := 43) (by decide +kernel)) rfl
theorem q44 : Cond.instantiable RX8 10 ∈ GW := gw1 (List.mem_of_getElem? (i := 44) (by decide +kernel)) rfl
theorem q46 : Cond.instanceMethod yX8_init ∈ GW := gw1 (List.mem_of_getElem? (i := 46) (by decide +kernel)) rfl
theorem q47 : Cond.code yX8_init cX8_init 1 none ∈ GW := gw1 (List.mem_of_getElem? (i := 47) (by decide +kernel)) rfl
theorem q48 : Cond.methodLink RX8 3 ⟨"java/lang/Object", "<init>", "()V"⟩ ∈ GW := gw1 (List.mem_of_getElem? (i := 48) (by decide +kernel)) rfl
theorem q49 : Cond.classLink RX8 9 RX2 ∈ GW := gw1 (List.mem_of_getElem? (i := 49) (by decide +kernel)) rfl
theorem q50 : Cond.instantiable RX2 7 ∈ GW := gw1 (List.mem_of_getElem? (i := 50) (by decide +kernel)) rfl
theorem q51 : Cond.methodLink RX8 11 yX2_init ∈ GW := gw1 (List.mem_of_getElem? (i := 51) (by decide +kernel)) rfl
theorem q52 : Cond.instanceMethod yX2_init ∈ GW := gw1 (List.mem_of_getElem? (i := 52) (by decide +kernel)) rfl
theorem q53 : Cond.code yX2_init cX2_init 1 none ∈ GW := gw1 (List.mem_of_getElem? (i := 53) (by decide +kernel)) rfl
theorem q54 : Cond.methodLink RX2 3 ⟨"java/lang/Object", "<init>", "()V"⟩ ∈ GW := gw1 (List.mem_of_getElem? (i := 54) (by decide +kernel)) rfl
theorem q55 : Cond.methodLink RX2 34 yJ7_fill_53178 ∈ GW := gw1 (List.mem_of_getElem? (i := 55) (by decide +kernel)) rfl
theorem q56 : Cond.static yJ7_fill_53178 ∈ GW := gw1 (List.mem_of_getElem? (i := 56) (by decide +kernel)) rfl
theorem q57 : Cond.code yJ7_fill_53178 cJ7_fill_53178 4 none ∈ GW := gw1 (List.mem_of_getElem? (i := 57) (by decide +kernel)) rfl
theorem q58 : Cond.fieldLink RX2 9 "HammerDepot$Hammers" "count" "I" ∈ GW := gw1 (List.mem_of_getElem? (i := 58) (by decide +kernel)) rfl
theorem q59 : Cond.fieldLink RX2 15 "HammerDepot$Hammers" "pitches" "[I" ∈ GW := gw1 (List.mem_of_getElem? (i := 59) (by decide +kernel)) rfl
theorem q60 : Cond.fieldLink RX2 19 "HammerDepot$Hammers" "wears" "[I" ∈ GW := gw1 (List.mem_of_getElem? (i := 60) (by decide +kernel)) rfl
theorem q61 : Cond.fieldLink RX2 22 "HammerDepot$Hammers" "slots" "[I" ∈ GW := gw1 (List.mem_of_getElem? (i := 61) (by decide +kernel)) rfl
theorem q62 : Cond.fieldLink RX2 25 "HammerDepot$Hammers" "borrowers" "[I" ∈ GW := gw1 (List.mem_of_getElem? (i := 62) (by decide +kernel)) rfl
theorem q63 : Cond.fieldLink RX2 28 "HammerDepot$Hammers" "dueDays" "[I" ∈ GW := gw1 (List.mem_of_getElem? (i := 63) (by decide +kernel)) rfl
theorem q64 : Cond.fieldLink RX2 31 "HammerDepot$Hammers" "contents" "[I" ∈ GW := gw1 (List.mem_of_getElem? (i := 64) (by decide +kernel)) rfl
theorem q65 : Cond.classLink RX8 18 RX5 ∈ GW := gw1 (List.mem_of_getElem? (i := 81) (by decide +kernel)) rfl
theorem q66 : Cond.instantiable RX5 8 ∈ GW := gw1 (List.mem_of_getElem? (i := 82) (by decide +kernel)) rfl
theorem q68 : Cond.instanceMethod yX5_init ∈ GW := gw1 (List.mem_of_getElem? (i := 84) (by decide +kernel)) rfl
theorem q69 : Cond.code yX5_init cX5_init 1 none ∈ GW := gw1 (List.mem_of_getElem? (i := 85) (by decide +kernel)) rfl
theorem q70 : Cond.methodLink RX5 3 ⟨"java/lang/Object", "<init>", "()V"⟩ ∈ GW := gw1 (List.mem_of_getElem? (i := 86) (by decide +kernel)) rfl
theorem q71 : Cond.fieldLink RX5 9 "HammerDepot$Requests" "count" "I" ∈ GW := gw1 (List.mem_of_getElem? (i := 87) (by decide +kernel)) rfl
theorem q72 : Cond.fieldLink RX5 15 "HammerDepot$Requests" "nextId" "I" ∈ GW := gw1 (List.mem_of_getElem? (i := 88) (by decide +kernel)) rfl
theorem q73 : Cond.fieldLink RX5 18 "HammerDepot$Requests" "ids" "[I" ∈ GW := gw1 (List.mem_of_getElem? (i := 89) (by decide +kernel)) rfl
theorem q74 : Cond.fieldLink RX5 22 "HammerDepot$Requests" "borrowers" "[I" ∈ GW := gw1 (List.mem_of_getElem? (i := 90) (by decide +kernel)) rfl
theorem q75 : Cond.fieldLink RX5 25 "HammerDepot$Requests" "pitches" "[I" ∈ GW := gw1 (List.mem_of_getElem? (i := 91) (by decide +kernel)) rfl
theorem q76 : Cond.fieldLink RX5 28 "HammerDepot$Requests" "tolerances" "[I" ∈ GW := gw1 (List.mem_of_getElem? (i := 92) (by decide +kernel)) rfl
theorem q77 : Cond.fieldLink RX5 31 "HammerDepot$Requests" "firstDays" "[I" ∈ GW := gw1 (List.mem_of_getElem? (i := 93) (by decide +kernel)) rfl
theorem q78 : Cond.fieldLink RX5 34 "HammerDepot$Requests" "lastDays" "[I" ∈ GW := gw1 (List.mem_of_getElem? (i := 94) (by decide +kernel)) rfl
theorem q79 : Cond.classLink RX8 25 RX0 ∈ GW := gw1 (List.mem_of_getElem? (i := 112) (by decide +kernel)) rfl
theorem q80 : Cond.instantiable RX0 5 ∈ GW := gw1 (List.mem_of_getElem? (i := 113) (by decide +kernel)) rfl
theorem q82 : Cond.instanceMethod yX0_init ∈ GW := gw1 (List.mem_of_getElem? (i := 115) (by decide +kernel)) rfl
theorem q83 : Cond.code yX0_init cX0_init 1 none ∈ GW := gw1 (List.mem_of_getElem? (i := 116) (by decide +kernel)) rfl
theorem q84 : Cond.methodLink RX0 3 ⟨"java/lang/Object", "<init>", "()V"⟩ ∈ GW := gw1 (List.mem_of_getElem? (i := 117) (by decide +kernel)) rfl
theorem q85 : Cond.fieldLink RX0 9 "HammerDepot$Bookings" "count" "I" ∈ GW := gw1 (List.mem_of_getElem? (i := 118) (by decide +kernel)) rfl
theorem q86 : Cond.fieldLink RX0 15 "HammerDepot$Bookings" "hammers" "[I" ∈ GW := gw1 (List.mem_of_getElem? (i := 119) (by decide +kernel)) rfl
theorem q87 : Cond.fieldLink RX0 19 "HammerDepot$Bookings" "borrowers" "[I" ∈ GW := gw1 (List.mem_of_getElem? (i := 120) (by decide +kernel)) rfl
theorem q88 : Cond.fieldLink RX0 22 "HammerDepot$Bookings" "firstDays" "[I" ∈ GW := gw1 (List.mem_of_getElem? (i := 121) (by decide +kernel)) rfl
theorem q89 : Cond.fieldLink RX0 25 "HammerDepot$Bookings" "lastDays" "[I" ∈ GW := gw1 (List.mem_of_getElem? (i := 122) (by decide +kernel)) rfl
theorem q90 : Cond.fieldLink RX8 12 "HammerDepot$State" "hammers" "LHammerDepot$Hammers;" ∈ GW := gw1 (List.mem_of_getElem? (i := 134) (by decide +kernel)) rfl
theorem q93 : Cond.fieldLink RX8 21 "HammerDepot$State" "requests" "LHammerDepot$Requests;" ∈ GW := gw1 (List.mem_of_getElem? (i := 137) (by decide +kernel)) rfl
theorem q96 : Cond.fieldLink RX8 28 "HammerDepot$State" "bookings" "LHammerDepot$Bookings;" ∈ GW := gw1 (List.mem_of_getElem? (i := 140) (by decide +kernel)) rfl
theorem q98 : Cond.fieldLink RX8 32 "HammerDepot$State" "day" "I" ∈ GW := gw1 (List.mem_of_getElem? (i := 142) (by decide +kernel)) rfl
theorem q100 : Cond.fieldLink RX8 36 "HammerDepot$State" "coins" "I" ∈ GW := gw1 (List.mem_of_getElem? (i := 144) (by decide +kernel)) rfl
theorem q102 : Cond.fieldLink RX8 39 "HammerDepot$State" "bookingCoins" "I" ∈ GW := gw1 (List.mem_of_getElem? (i := 146) (by decide +kernel)) rfl
theorem q104 : Cond.fieldLink RX8 42 "HammerDepot$State" "lateCoins" "I" ∈ GW := gw1 (List.mem_of_getElem? (i := 148) (by decide +kernel)) rfl
theorem q106 : Cond.fieldLink RX8 45 "HammerDepot$State" "faceCosts" "I" ∈ GW := gw1 (List.mem_of_getElem? (i := 150) (by decide +kernel)) rfl
theorem q108 : Cond.fieldLink RX8 48 "HammerDepot$State" "broken" "I" ∈ GW := gw1 (List.mem_of_getElem? (i := 152) (by decide +kernel)) rfl
theorem q110 : Cond.fieldLink RX8 51 "HammerDepot$State" "lent" "I" ∈ GW := gw1 (List.mem_of_getElem? (i := 154) (by decide +kernel)) rfl
theorem q112 : Cond.classLink RX9 19 RX3 ∈ GW := gw1 (List.mem_of_getElem? (i := 177) (by decide +kernel)) rfl
theorem q113 : Cond.instantiable RX3 3 ∈ GW := gw1 (List.mem_of_getElem? (i := 178) (by decide +kernel)) rfl
theorem q114 : Cond.methodLink RX9 21 yX3_init ∈ GW := gw1 (List.mem_of_getElem? (i := 179) (by decide +kernel)) rfl
theorem q115 : Cond.instanceMethod yX3_init ∈ GW := gw1 (List.mem_of_getElem? (i := 180) (by decide +kernel)) rfl
theorem q116 : Cond.code yX3_init cX3_init 2 none ∈ GW := gw1 (List.mem_of_getElem? (i := 181) (by decide +kernel)) rfl
theorem q117 : Cond.methodLink RX3 3 ⟨"java/lang/Object", "<init>", "()V"⟩ ∈ GW := gw1 (List.mem_of_getElem? (i := 182) (by decide +kernel)) rfl
theorem q118 : Cond.classLink RX3 11 RX8 ∈ GW := gw1 (List.mem_of_getElem? (i := 183) (by decide +kernel)) rfl
theorem q120 : Cond.fieldLink RX3 13 "HammerDepot$History" "slots" "[LHammerDepot$State;" ∈ GW := gw1 (List.mem_of_getElem? (i := 186) (by decide +kernel)) rfl
theorem q121 : Cond.fieldLink RX3 17 "HammerDepot$History" "spare" "I" ∈ GW := gw1 (List.mem_of_getElem? (i := 187) (by decide +kernel)) rfl
theorem q122 : Cond.fieldLink RX3 21 "HammerDepot$History" "count" "I" ∈ GW := gw1 (List.mem_of_getElem? (i := 188) (by decide +kernel)) rfl
theorem q123 : Cond.classLink RX9 26 RX4 ∈ GW := gw1 (List.mem_of_getElem? (i := 196) (by decide +kernel)) rfl
theorem q124 : Cond.instantiable RX4 5 ∈ GW := gw1 (List.mem_of_getElem? (i := 197) (by decide +kernel)) rfl
theorem q126 : Cond.instanceMethod yX4_init ∈ GW := gw1 (List.mem_of_getElem? (i := 199) (by decide +kernel)) rfl
theorem q127 : Cond.code yX4_init cX4_init 1 none ∈ GW := gw1 (List.mem_of_getElem? (i := 200) (by decide +kernel)) rfl
theorem q128 : Cond.methodLink RX4 3 ⟨"java/lang/Object", "<init>", "()V"⟩ ∈ GW := gw1 (List.mem_of_getElem? (i := 201) (by decide +kernel)) rfl
theorem q129 : Cond.fieldLink RX4 9 "HammerDepot$Matching" "count" "I" ∈ GW := gw1 (List.mem_of_getElem? (i := 202) (by decide +kernel)) rfl
theorem q130 : Cond.fieldLink RX4 15 "HammerDepot$Matching" "fitting" "[I" ∈ GW := gw1 (List.mem_of_getElem? (i := 203) (by decide +kernel)) rfl
theorem q131 : Cond.fieldLink RX4 19 "HammerDepot$Matching" "holders" "[I" ∈ GW := gw1 (List.mem_of_getElem? (i := 204) (by decide +kernel)) rfl
theorem q132 : Cond.fieldLink RX4 22 "HammerDepot$Matching" "chosen" "[I" ∈ GW := gw1 (List.mem_of_getElem? (i := 205) (by decide +kernel)) rfl
theorem q133 : Cond.fieldLink RX4 25 "HammerDepot$Matching" "untried" "I" ∈ GW := gw1 (List.mem_of_getElem? (i := 206) (by decide +kernel)) rfl
theorem q134 : Cond.classLink RX9 33 RX1 ∈ GW := gw1 (List.mem_of_getElem? (i := 218) (by decide +kernel)) rfl
theorem q135 : Cond.instantiable RX1 4 ∈ GW := gw1 (List.mem_of_getElem? (i := 219) (by decide +kernel)) rfl
theorem q137 : Cond.instanceMethod yX1_init ∈ GW := gw1 (List.mem_of_getElem? (i := 221) (by decide +kernel)) rfl
theorem q138 : Cond.code yX1_init cX1_init 1 none ∈ GW := gw1 (List.mem_of_getElem? (i := 222) (by decide +kernel)) rfl
theorem q139 : Cond.methodLink RX1 3 ⟨"java/lang/Object", "<init>", "()V"⟩ ∈ GW := gw1 (List.mem_of_getElem? (i := 223) (by decide +kernel)) rfl
theorem q140 : Cond.fieldLink RX1 9 "HammerDepot$Chords" "count" "I" ∈ GW := gw1 (List.mem_of_getElem? (i := 224) (by decide +kernel)) rfl
theorem q141 : Cond.fieldLink RX1 15 "HammerDepot$Chords" "size" "I" ∈ GW := gw1 (List.mem_of_getElem? (i := 225) (by decide +kernel)) rfl
theorem q142 : Cond.fieldLink RX1 18 "HammerDepot$Chords" "pitches" "[I" ∈ GW := gw1 (List.mem_of_getElem? (i := 226) (by decide +kernel)) rfl
theorem q143 : Cond.fieldLink RX1 22 "HammerDepot$Chords" "consonances" "[I" ∈ GW := gw1 (List.mem_of_getElem? (i := 227) (by decide +kernel)) rfl
theorem q144 : Cond.classLink RX9 40 RX6 ∈ GW := gw1 (List.mem_of_getElem? (i := 237) (by decide +kernel)) rfl
theorem q145 : Cond.instantiable RX6 7 ∈ GW := gw1 (List.mem_of_getElem? (i := 238) (by decide +kernel)) rfl
theorem q147 : Cond.instanceMethod yX6_init ∈ GW := gw2 (List.mem_of_getElem? (i := 0) (by decide +kernel)) rfl
theorem q148 : Cond.code yX6_init cX6_init 1 none ∈ GW := gw2 (List.mem_of_getElem? (i := 1) (by decide +kernel)) rfl
theorem q149 : Cond.methodLink RX6 5 ⟨"java/lang/Object", "<init>", "()V"⟩ ∈ GW := gw2 (List.mem_of_getElem? (i := 2) (by decide +kernel)) rfl
theorem q150 : Cond.fieldLink RX6 11 "HammerDepot$Script" "text" "[C" ∈ GW := gw2 (List.mem_of_getElem? (i := 3) (by decide +kernel)) rfl
theorem q151 : Cond.fieldLink RX6 15 "HammerDepot$Script" "length" "I" ∈ GW := gw2 (List.mem_of_getElem? (i := 4) (by decide +kernel)) rfl
theorem q152 : Cond.fieldLink RX6 19 "HammerDepot$Script" "at" "I" ∈ GW := gw2 (List.mem_of_getElem? (i := 5) (by decide +kernel)) rfl
theorem q153 : Cond.fieldLink RX6 22 "HammerDepot$Script" "count" "I" ∈ GW := gw2 (List.mem_of_getElem? (i := 6) (by decide +kernel)) rfl
theorem q154 : Cond.fieldLink RX6 25 "HammerDepot$Script" "kinds" "[I" ∈ GW := gw2 (List.mem_of_getElem? (i := 7) (by decide +kernel)) rfl
theorem q155 : Cond.fieldLink RX6 29 "HammerDepot$Script" "arguments" "[I" ∈ GW := gw2 (List.mem_of_getElem? (i := 8) (by decide +kernel)) rfl
theorem q156 : Cond.fieldLink RX6 32 "HammerDepot$Script" "argumentCount" "I" ∈ GW := gw2 (List.mem_of_getElem? (i := 9) (by decide +kernel)) rfl
theorem q157 : Cond.classLink RX9 47 RJ4 ∈ GW := gw2 (List.mem_of_getElem? (i := 26) (by decide +kernel)) rfl
theorem q158 : Cond.instantiable RJ4 4 ∈ GW := gw2 (List.mem_of_getElem? (i := 27) (by decide +kernel)) rfl
theorem q159 : Cond.methodLink RX9 49 yJ4_init_da8c8 ∈ GW := gw2 (List.mem_of_getElem? (i := 28) (by decide +kernel)) rfl
theorem q160 : Cond.instanceMethod yJ4_init_da8c8 ∈ GW := gw2 (List.mem_of_getElem? (i := 29) (by decide +kernel)) rfl
theorem q161 : Cond.code yJ4_init_da8c8 cJ4_init_da8c8 1 none ∈ GW := gw2 (List.mem_of_getElem? (i := 30) (by decide +kernel)) rfl
theorem q162 : Cond.methodLink RJ4 1 yJ5_init_d00df ∈ GW := gw2 (List.mem_of_getElem? (i := 31) (by decide +kernel)) rfl
theorem q163 : Cond.instanceMethod yJ5_init_d00df ∈ GW := gw2 (List.mem_of_getElem? (i := 32) (by decide +kernel)) rfl
theorem q164 : Cond.code yJ5_init_d00df cJ5_init_d00df 2 none ∈ GW := gw2 (List.mem_of_getElem? (i := 33) (by decide +kernel)) rfl
theorem q165 : Cond.methodLink RJ5 3 ⟨"java/lang/Object", "<init>", "()V"⟩ ∈ GW := gw2 (List.mem_of_getElem? (i := 34) (by decide +kernel)) rfl
theorem q166 : Cond.fieldLink RJ5 18 "java/lang/String" "COMPACT_STRINGS" "Z" ∈ GW := gw2 (List.mem_of_getElem? (i := 35) (by decide +kernel)) rfl
theorem q167 : Cond.methodLink RJ5 26 yJ2_newBytesFor_77867 ∈ GW := gw2 (List.mem_of_getElem? (i := 37) (by decide +kernel)) rfl
theorem q168 : Cond.static yJ2_newBytesFor_77867 ∈ GW := gw2 (List.mem_of_getElem? (i := 38) (by decide +kernel)) rfl
theorem q169 : Cond.code yJ2_newBytesFor_77867 cJ2_newBytesFor_77867 1 (some (FieldType.array FieldType.byte)) ∈ GW := gw2 (List.mem_of_getElem? (i := 39) (by decide +kernel)) rfl
theorem q170 : Cond.methodLink RJ2 11 yJ2_newBytesLength_0f7a4 ∈ GW := gw2 (List.mem_of_getElem? (i := 40) (by decide +kernel)) rfl
theorem q171 : Cond.static yJ2_newBytesLength_0f7a4 ∈ GW := gw2 (List.mem_of_getElem? (i := 41) (by decide +kernel)) rfl
theorem q172 : Cond.code yJ2_newBytesLength_0f7a4 cJ2_newBytesLength_0f7a4 1 (some FieldType.int) ∈ GW := gw2 (List.mem_of_getElem? (i := 42) (by decide +kernel)) rfl
theorem q173 : Cond.constant RJ2 20 (1073741823) ∈ GW := gw2 (List.mem_of_getElem? (i := 43) (by decide +kernel)) rfl
theorem q174 : Cond.fieldLink RJ5 15 "java/lang/AbstractStringBuilder" "value" "[B" ∈ GW := gw2 (List.mem_of_getElem? (i := 44) (by decide +kernel)) rfl
theorem q175 : Cond.fieldLink RJ5 22 "java/lang/AbstractStringBuilder" "coder" "B" ∈ GW := gw2 (List.mem_of_getElem? (i := 45) (by decide +kernel)) rfl
theorem q176 : Cond.fieldLink RJ5 73 "java/lang/AbstractStringBuilder" "maybeLatin1" "Z" ∈ GW := gw2 (List.mem_of_getElem? (i := 46) (by decide +kernel)) rfl
theorem q177 : Cond.fieldLink RJ0 1048 "java/lang/AbstractStringBuilder" "maybeLatin1" "Z" ∈ GW := gw2 (List.mem_of_getElem? (i := 47) (by decide +kernel)) rfl
theorem q178 : Cond.fieldLink RJ5 79 "java/lang/AbstractStringBuilder" "count" "I" ∈ GW := gw2 (List.mem_of_getElem? (i := 48) (by decide +kernel)) rfl
theorem q179 : Cond.fieldLink RX9 12 "HammerDepot" "state" "LHammerDepot$State;" ∈ GW := gw2 (List.mem_of_getElem? (i := 59) (by decide +kernel)) rfl
theorem q180 : Cond.fieldLink RX9 16 "HammerDepot" "snapshot" "LHammerDepot$State;" ∈ GW := gw2 (List.mem_of_getElem? (i := 60) (by decide +kernel)) rfl
theorem q181 : Cond.fieldLink RX9 22 "HammerDepot" "history" "LHammerDepot$History;" ∈ GW := gw2 (List.mem_of_getElem? (i := 61) (by decide +kernel)) rfl
theorem q182 : Cond.fieldLink RX9 29 "HammerDepot" "matching" "LHammerDepot$Matching;" ∈ GW := gw2 (List.mem_of_getElem? (i := 62) (by decide +kernel)) rfl
theorem q183 : Cond.fieldLink RX9 36 "HammerDepot" "chords" "LHammerDepot$Chords;" ∈ GW := gw2 (List.mem_of_getElem? (i := 63) (by decide +kernel)) rfl
theorem q184 : Cond.fieldLink RX9 43 "HammerDepot" "script" "LHammerDepot$Script;" ∈ GW := gw2 (List.mem_of_getElem? (i := 64) (by decide +kernel)) rfl
theorem q185 : Cond.fieldLink RX9 50 "HammerDepot" "output" "Ljava/lang/StringBuilder;" ∈ GW := gw2 (List.mem_of_getElem? (i := 65) (by decide +kernel)) rfl
theorem q186 : Cond.fieldLink RX9 54 "HammerDepot" "hasSnapshot" "Z" ∈ GW := gw2 (List.mem_of_getElem? (i := 66) (by decide +kernel)) rfl
theorem q187 : Cond.fieldLink RX9 58 "HammerDepot" "errorAt" "I" ∈ GW := gw2 (List.mem_of_getElem? (i := 67) (by decide +kernel)) rfl
theorem q188 : Cond.fieldLink RX9 62 "HammerDepot" "failedAt" "I" ∈ GW := gw2 (List.mem_of_getElem? (i := 68) (by decide +kernel)) rfl
theorem q189 : Cond.methodLink RL 186 yX9_grantMost ∈ GW := gw2 (List.mem_of_getElem? (i := 90) (by decide +kernel)) rfl
theorem q190 : Cond.instanceMethod yX9_grantMost ∈ GW := gw2 (List.mem_of_getElem? (i := 91) (by decide +kernel)) rfl
theorem q191 : Cond.selects RX9 yX9_grantMost yX9_grantMost ∈ GW := gw2 (List.mem_of_getElem? (i := 92) (by decide +kernel)) rfl
theorem q192 : Cond.code yX9_grantMost cX9_grantMost 1 (some FieldType.int) ∈ GW := gw2 (List.mem_of_getElem? (i := 93) (by decide +kernel)) rfl
theorem q193 : Cond.methodLink RX9 65 yX3_mark ∈ GW := gw2 (List.mem_of_getElem? (i := 94) (by decide +kernel)) rfl
theorem q194 : Cond.instanceMethod yX3_mark ∈ GW := gw2 (List.mem_of_getElem? (i := 95) (by decide +kernel)) rfl
theorem q195 : Cond.selects RX3 yX3_mark yX3_mark ∈ GW := gw2 (List.mem_of_getElem? (i := 96) (by decide +kernel)) rfl
theorem q196 : Cond.code yX3_mark cX3_mark 3 none ∈ GW := gw2 (List.mem_of_getElem? (i := 97) (by decide +kernel)) rfl
theorem q197 : Cond.methodLink RX3 25 yX3_spareState ∈ GW := gw2 (List.mem_of_getElem? (i := 98) (by decide +kernel)) rfl
theorem q198 : Cond.instanceMethod yX3_spareState ∈ GW := gw2 (List.mem_of_getElem? (i := 100) (by decide +kernel)) rfl
theorem q199 : Cond.code yX3_spareState cX3_spareState 1 (some (FieldType.object "HammerDepot$State")) ∈ GW := gw2 (List.mem_of_getElem? (i := 101) (by decide +kernel)) rfl
theorem q200 : Cond.methodLink RX3 29 yX8_copyFrom ∈ GW := gw2 (List.mem_of_getElem? (i := 102) (by decide +kernel)) rfl
theorem q201 : Cond.instanceMethod yX8_copyFrom ∈ GW := gw2 (List.mem_of_getElem? (i := 103) (by decide +kernel)) rfl
theorem q202 : Cond.selects RX8 yX8_copyFrom yX8_copyFrom ∈ GW := gw2 (List.mem_of_getElem? (i := 104) (by decide +kernel)) rfl
theorem q203 : Cond.code yX8_copyFrom cX8_copyFrom 2 none ∈ GW := gw2 (List.mem_of_getElem? (i := 105) (by decide +kernel)) rfl
theorem q204 : Cond.methodLink RX8 54 yX2_copyFrom ∈ GW := gw2 (List.mem_of_getElem? (i := 106) (by decide +kernel)) rfl
theorem q205 : Cond.instanceMethod yX2_copyFrom ∈ GW := gw2 (List.mem_of_getElem? (i := 107) (by decide +kernel)) rfl
theorem q206 : Cond.selects RX2 yX2_copyFrom yX2_copyFrom ∈ GW := gw2 (List.mem_of_getElem? (i := 108) (by decide +kernel)) rfl
theorem q207 : Cond.code yX2_copyFrom cX2_copyFrom 2 none ∈ GW := gw2 (List.mem_of_getElem? (i := 109) (by decide +kernel)) rfl
theorem q208 : Cond.methodLink RX2 40 ⟨"java/lang/System", "arraycopy", "(Ljava/lang/Object;ILjava/lang/Object;II)V"⟩ ∈ GW := gw2 (List.mem_of_getElem? (i := 110) (by decide +kernel)) rfl
theorem q209 : Cond.static ⟨"java/lang/System", "arraycopy", "(Ljava/lang/Object;ILjava/lang/Object;II)V"⟩ ∈ GW := gw2 (List.mem_of_getElem? (i := 111) (by decide +kernel)) rfl
theorem q210 : Cond.native ⟨"java/lang/System", "arraycopy", "(Ljava/lang/Object;ILjava/lang/Object;II)V"⟩ ∈ GW := gw2 (List.mem_of_getElem? (i := 112) (by decide +kernel)) rfl
theorem q211 : Cond.methodLink RX8 58 yX5_copyFrom ∈ GW := gw2 (List.mem_of_getElem? (i := 113) (by decide +kernel)) rfl
theorem q212 : Cond.instanceMethod yX5_copyFrom ∈ GW := gw2 (List.mem_of_getElem? (i := 114) (by decide +kernel)) rfl
theorem q213 : Cond.selects RX5 yX5_copyFrom yX5_copyFrom ∈ GW := gw2 (List.mem_of_getElem? (i := 115) (by decide +kernel)) rfl
theorem q214 : Cond.code yX5_copyFrom cX5_copyFrom 2 none ∈ GW := gw2 (List.mem_of_getElem? (i := 116) (by decide +kernel)) rfl
theorem q215 : Cond.methodLink RX5 37 ⟨"java/lang/System", "arraycopy", "(Ljava/lang/Object;ILjava/lang/Object;II)V"⟩ ∈ GW := gw2 (List.mem_of_getElem? (i := 117) (by decide +kernel)) rfl
theorem q216 : Cond.methodLink RX8 61 yX0_copyFrom ∈ GW := gw2 (List.mem_of_getElem? (i := 118) (by decide +kernel)) rfl
theorem q217 : Cond.instanceMethod yX0_copyFrom ∈ GW := gw2 (List.mem_of_getElem? (i := 119) (by decide +kernel)) rfl
theorem q218 : Cond.selects RX0 yX0_copyFrom yX0_copyFrom ∈ GW := gw2 (List.mem_of_getElem? (i := 120) (by decide +kernel)) rfl
theorem q219 : Cond.code yX0_copyFrom cX0_copyFrom 3 none ∈ GW := gw2 (List.mem_of_getElem? (i := 121) (by decide +kernel)) rfl
theorem q220 : Cond.methodLink RX0 28 yJ9_min_7cf53 ∈ GW := gw2 (List.mem_of_getElem? (i := 122) (by decide +kernel)) rfl
theorem q221 : Cond.static yJ9_min_7cf53 ∈ GW := gw2 (List.mem_of_getElem? (i := 123) (by decide +kernel)) rfl
theorem q222 : Cond.code yJ9_min_7cf53 cJ9_min_7cf53 2 (some FieldType.int) ∈ GW := gw2 (List.mem_of_getElem? (i := 124) (by decide +kernel)) rfl
theorem q223 : Cond.methodLink RX0 34 ⟨"java/lang/System", "arraycopy", "(Ljava/lang/Object;ILjava/lang/Object;II)V"⟩ ∈ GW := gw2 (List.mem_of_getElem? (i := 125) (by decide +kernel)) rfl
theorem q224 : Cond.methodLink RX9 94 yX8_grantTogether ∈ GW := gw2 (List.mem_of_getElem? (i := 126) (by decide +kernel)) rfl
theorem q225 : Cond.instanceMethod yX8_grantTogether ∈ GW := gw2 (List.mem_of_getElem? (i := 127) (by decide +kernel)) rfl
theorem q226 : Cond.selects RX8 yX8_grantTogether yX8_grantTogether ∈ GW := gw2 (List.mem_of_getElem? (i := 128) (by decide +kernel)) rfl
theorem q227 : Cond.code yX8_grantTogether cX8_grantTogether 6 (some FieldType.int) ∈ GW := gw2 (List.mem_of_getElem? (i := 129) (by decide +kernel)) rfl
theorem q228 : Cond.methodLink RX8 136 yX8_dropRequestsThatHaveCome ∈ GW := gw2 (List.mem_of_getElem? (i := 130) (by decide +kernel)) rfl
theorem q229 : Cond.instanceMethod yX8_dropRequestsThatHaveCome ∈ GW := gw2 (List.mem_of_getElem? (i := 132) (by decide +kernel)) rfl
theorem q230 : Cond.code yX8_dropRequestsThatHaveCome cX8_dropRequestsThatHaveCome 2 none ∈ GW := gw2 (List.mem_of_getElem? (i := 133) (by decide +kernel)) rfl
theorem q231 : Cond.methodLink RX8 122 yX5_size ∈ GW := gw2 (List.mem_of_getElem? (i := 134) (by decide +kernel)) rfl
theorem q232 : Cond.instanceMethod yX5_size ∈ GW := gw2 (List.mem_of_getElem? (i := 135) (by decide +kernel)) rfl
theorem q233 : Cond.selects RX5 yX5_size yX5_size ∈ GW := gw2 (List.mem_of_getElem? (i := 136) (by decide +kernel)) rfl
theorem q234 : Cond.code yX5_size cX5_size 1 (some FieldType.int) ∈ GW := gw2 (List.mem_of_getElem? (i := 137) (by decide +kernel)) rfl
theorem q235 : Cond.methodLink RX8 126 yX5_firstDayAt ∈ GW := gw2 (List.mem_of_getElem? (i := 138) (by decide +kernel)) rfl
theorem q236 : Cond.instanceMethod yX5_firstDayAt ∈ GW := gw2 (List.mem_of_getElem? (i := 139) (by decide +kernel)) rfl
theorem q237 : Cond.selects RX5 yX5_firstDayAt yX5_firstDayAt ∈ GW := gw2 (List.mem_of_getElem? (i := 140) (by decide +kernel)) rfl
theorem q238 : Cond.code yX5_firstDayAt cX5_firstDayAt 2 (some FieldType.int) ∈ GW := gw2 (List.mem_of_getElem? (i := 141) (by decide +kernel)) rfl
theorem q239 : Cond.methodLink RX5 47 yX5_has ∈ GW := gw2 (List.mem_of_getElem? (i := 142) (by decide +kernel)) rfl
theorem q240 : Cond.instanceMethod yX5_has ∈ GW := gw2 (List.mem_of_getElem? (i := 143) (by decide +kernel)) rfl
theorem q241 : Cond.selects RX5 yX5_has yX5_has ∈ GW := gw2 (List.mem_of_getElem? (i := 144) (by decide +kernel)) rfl
theorem q242 : Cond.code yX5_has cX5_has 2 (some FieldType.boolean) ∈ GW := gw2 (List.mem_of_getElem? (i := 145) (by decide +kernel)) rfl
theorem q243 : Cond.methodLink RX8 119 yX5_remove ∈ GW := gw2 (List.mem_of_getElem? (i := 146) (by decide +kernel)) rfl
theorem q244 : Cond.instanceMethod yX5_remove ∈ GW := gw2 (List.mem_of_getElem? (i := 147) (by decide +kernel)) rfl
theorem q245 : Cond.selects RX5 yX5_remove yX5_remove ∈ GW := gw2 (List.mem_of_getElem? (i := 148) (by decide +kernel)) rfl
theorem q246 : Cond.code yX5_remove cX5_remove 3 none ∈ GW := gw2 (List.mem_of_getElem? (i := 149) (by decide +kernel)) rfl
theorem q247 : Cond.methodLink RX8 139 yX4_load ∈ GW := gw2 (List.mem_of_getElem? (i := 150) (by decide +kernel)) rfl
theorem q248 : Cond.instanceMethod yX4_load ∈ GW := gw2 (List.mem_of_getElem? (i := 151) (by decide +kernel)) rfl
theorem q249 : Cond.selects RX4 yX4_load yX4_load ∈ GW := gw2 (List.mem_of_getElem? (i := 152) (by decide +kernel)) rfl
theorem q250 : Cond.code yX4_load cX4_load 5 none ∈ GW := gw2 (List.mem_of_getElem? (i := 153) (by decide +kernel)) rfl
theorem q251 : Cond.methodLink RX4 34 yX5_size ∈ GW := gw2 (List.mem_of_getElem? (i := 154) (by decide +kernel)) rfl
theorem q252 : Cond.methodLink RX4 40 yJ9_min_7cf53 ∈ GW := gw2 (List.mem_of_getElem? (i := 155) (by decide +kernel)) rfl
theorem q253 : Cond.methodLink RX4 50 yX2_size ∈ GW := gw2 (List.mem_of_getElem? (i := 156) (by decide +kernel)) rfl
theorem q254 : Cond.instanceMethod yX2_size ∈ GW := gw2 (List.mem_of_getElem? (i := 157) (by decide +kernel)) rfl
theorem q255 : Cond.selects RX2 yX2_size yX2_size ∈ GW := gw2 (List.mem_of_getElem? (i := 158) (by decide +kernel)) rfl
theorem q256 : Cond.code yX2_size cX2_size 1 (some FieldType.int) ∈ GW := gw2 (List.mem_of_getElem? (i := 159) (by decide +kernel)) rfl
theorem q257 : Cond.methodLink RX4 53 yX8_suits ∈ GW := gw2 (List.mem_of_getElem? (i := 160) (by decide +kernel)) rfl
theorem q258 : Cond.instanceMethod yX8_suits ∈ GW := gw2 (List.mem_of_getElem? (i := 161) (by decide +kernel)) rfl
theorem q259 : Cond.selects RX8 yX8_suits yX8_suits ∈ GW := gw2 (List.mem_of_getElem? (i := 162) (by decide +kernel)) rfl
theorem q260 : Cond.code yX8_suits cX8_suits 4 (some FieldType.boolean) ∈ GW := gw2 (List.mem_of_getElem? (i := 163) (by decide +kernel)) rfl
theorem q261 : Cond.methodLink RX8 160 yX5_has ∈ GW := gw2 (List.mem_of_getElem? (i := 164) (by decide +kernel)) rfl
theorem q262 : Cond.methodLink RX8 83 yX2_has ∈ GW := gw2 (List.mem_of_getElem? (i := 165) (by decide +kernel)) rfl
theorem q263 : Cond.instanceMethod yX2_has ∈ GW := gw2 (List.mem_of_getElem? (i := 166) (by decide +kernel)) rfl
theorem q264 : Cond.selects RX2 yX2_has yX2_has ∈ GW := gw2 (List.mem_of_getElem? (i := 167) (by decide +kernel)) rfl
theorem q265 : Cond.code yX2_has cX2_has 2 (some FieldType.boolean) ∈ GW := gw2 (List.mem_of_getElem? (i := 168) (by decide +kernel)) rfl
theorem q266 : Cond.methodLink RX8 161 yX2_pitchOf ∈ GW := gw2 (List.mem_of_getElem? (i := 169) (by decide +kernel)) rfl
theorem q267 : Cond.instanceMethod yX2_pitchOf ∈ GW := gw2 (List.mem_of_getElem? (i := 170) (by decide +kernel)) rfl
theorem q268 : Cond.selects RX2 yX2_pitchOf yX2_pitchOf ∈ GW := gw2 (List.mem_of_getElem? (i := 171) (by decide +kernel)) rfl
theorem q269 : Cond.code yX2_pitchOf cX2_pitchOf 2 (some FieldType.int) ∈ GW := gw2 (List.mem_of_getElem? (i := 172) (by decide +kernel)) rfl
theorem q270 : Cond.methodLink RX2 46 yX2_has ∈ GW := gw2 (List.mem_of_getElem? (i := 173) (by decide +kernel)) rfl
theorem q271 : Cond.methodLink RX8 164 yX5_pitchAt ∈ GW := gw2 (List.mem_of_getElem? (i := 174) (by decide +kernel)) rfl
theorem q272 : Cond.instanceMethod yX5_pitchAt ∈ GW := gw2 (List.mem_of_getElem? (i := 175) (by decide +kernel)) rfl
theorem q273 : Cond.selects RX5 yX5_pitchAt yX5_pitchAt ∈ GW := gw2 (List.mem_of_getElem? (i := 176) (by decide +kernel)) rfl
theorem q274 : Cond.code yX5_pitchAt cX5_pitchAt 2 (some FieldType.int) ∈ GW := gw2 (List.mem_of_getElem? (i := 177) (by decide +kernel)) rfl
theorem q275 : Cond.methodLink RX8 167 yJ9_abs_0f7a4 ∈ GW := gw2 (List.mem_of_getElem? (i := 178) (by decide +kernel)) rfl
theorem q276 : Cond.static yJ9_abs_0f7a4 ∈ GW := gw2 (List.mem_of_getElem? (i := 179) (by decide +kernel)) rfl
theorem q277 : Cond.code yJ9_abs_0f7a4 cJ9_abs_0f7a4 1 (some FieldType.int) ∈ GW := gw2 (List.mem_of_getElem? (i := 180) (by decide +kernel)) rfl
theorem q278 : Cond.methodLink RX8 172 yX5_toleranceAt ∈ GW := gw2 (List.mem_of_getElem? (i := 181) (by decide +kernel)) rfl
theorem q279 : Cond.instanceMethod yX5_toleranceAt ∈ GW := gw2 (List.mem_of_getElem? (i := 182) (by decide +kernel)) rfl
theorem q280 : Cond.selects RX5 yX5_toleranceAt yX5_toleranceAt ∈ GW := gw2 (List.mem_of_getElem? (i := 183) (by decide +kernel)) rfl
theorem q281 : Cond.code yX5_toleranceAt cX5_toleranceAt 2 (some FieldType.int) ∈ GW := gw2 (List.mem_of_getElem? (i := 184) (by decide +kernel)) rfl
theorem q282 : Cond.methodLink RX8 175 yX2_wearOf ∈ GW := gw2 (List.mem_of_getElem? (i := 185) (by decide +kernel)) rfl
theorem q283 : Cond.instanceMethod yX2_wearOf ∈ GW := gw2 (List.mem_of_getElem? (i := 186) (by decide +kernel)) rfl
theorem q284 : Cond.selects RX2 yX2_wearOf yX2_wearOf ∈ GW := gw2 (List.mem_of_getElem? (i := 187) (by decide +kernel)) rfl
theorem q285 : Cond.code yX2_wearOf cX2_wearOf 2 (some FieldType.int) ∈ GW := gw2 (List.mem_of_getElem? (i := 188) (by decide +kernel)) rfl
theorem q286 : Cond.methodLink RX8 86 yX2_isAway ∈ GW := gw2 (List.mem_of_getElem? (i := 189) (by decide +kernel)) rfl
theorem q287 : Cond.instanceMethod yX2_isAway ∈ GW := gw2 (List.mem_of_getElem? (i := 190) (by decide +kernel)) rfl
theorem q288 : Cond.selects RX2 yX2_isAway yX2_isAway ∈ GW := gw2 (List.mem_of_getElem? (i := 191) (by decide +kernel)) rfl
theorem q289 : Cond.code yX2_isAway cX2_isAway 2 (some FieldType.boolean) ∈ GW := gw2 (List.mem_of_getElem? (i := 192) (by decide +kernel)) rfl
theorem q290 : Cond.methodLink RX8 178 yX2_dueDayOf ∈ GW := gw2 (List.mem_of_getElem? (i := 193) (by decide +kernel)) rfl
theorem q291 : Cond.instanceMethod yX2_dueDayOf ∈ GW := gw2 (List.mem_of_getElem? (i := 194) (by decide +kernel)) rfl
theorem q292 : Cond.selects RX2 yX2_dueDayOf yX2_dueDayOf ∈ GW := gw2 (List.mem_of_getElem? (i := 195) (by decide +kernel)) rfl
theorem q293 : Cond.code yX2_dueDayOf cX2_dueDayOf 2 (some FieldType.int) ∈ GW := gw2 (List.mem_of_getElem? (i := 196) (by decide +kernel)) rfl
theorem q294 : Cond.methodLink RX8 151 yX5_lastDayAt ∈ GW := gw2 (List.mem_of_getElem? (i := 197) (by decide +kernel)) rfl
theorem q295 : Cond.instanceMethod yX5_lastDayAt ∈ GW := gw2 (List.mem_of_getElem? (i := 198) (by decide +kernel)) rfl
theorem q296 : Cond.selects RX5 yX5_lastDayAt yX5_lastDayAt ∈ GW := gw2 (List.mem_of_getElem? (i := 199) (by decide +kernel)) rfl
theorem q297 : Cond.code yX5_lastDayAt cX5_lastDayAt 2 (some FieldType.int) ∈ GW := gw2 (List.mem_of_getElem? (i := 200) (by decide +kernel)) rfl
theorem q298 : Cond.methodLink RX8 181 yX0_meets ∈ GW := gw2 (List.mem_of_getElem? (i := 201) (by decide +kernel)) rfl
theorem q299 : Cond.instanceMethod yX0_meets ∈ GW := gw2 (List.mem_of_getElem? (i := 202) (by decide +kernel)) rfl
theorem q300 : Cond.selects RX0 yX0_meets yX0_meets ∈ GW := gw2 (List.mem_of_getElem? (i := 203) (by decide +kernel)) rfl
theorem q301 : Cond.code yX0_meets cX0_meets 5 (some FieldType.boolean) ∈ GW := gw2 (List.mem_of_getElem? (i := 204) (by decide +kernel)) rfl
theorem q302 : Cond.methodLink RX0 40 yX0_has ∈ GW := gw2 (List.mem_of_getElem? (i := 205) (by decide +kernel)) rfl
theorem q303 : Cond.instanceMethod yX0_has ∈ GW := gw2 (List.mem_of_getElem? (i := 207) (by decide +kernel)) rfl
theorem q304 : Cond.code yX0_has cX0_has 2 (some FieldType.boolean) ∈ GW := gw2 (List.mem_of_getElem? (i := 208) (by decide +kernel)) rfl
theorem q305 : Cond.methodLink RX8 145 yX4_choose ∈ GW := gw2 (List.mem_of_getElem? (i := 209) (by decide +kernel)) rfl
theorem q306 : Cond.instanceMethod yX4_choose ∈ GW := gw2 (List.mem_of_getElem? (i := 210) (by decide +kernel)) rfl
theorem q307 : Cond.selects RX4 yX4_choose yX4_choose ∈ GW := gw2 (List.mem_of_getElem? (i := 211) (by decide +kernel)) rfl
theorem q308 : Cond.code yX4_choose cX4_choose 6 (some FieldType.int) ∈ GW := gw2 (List.mem_of_getElem? (i := 212) (by decide +kernel)) rfl
theorem q309 : Cond.methodLink RX4 79 yX4_greatest ∈ GW := gw2 (List.mem_of_getElem? (i := 213) (by decide +kernel)) rfl
theorem q310 : Cond.instanceMethod yX4_greatest ∈ GW := gw2 (List.mem_of_getElem? (i := 214) (by decide +kernel)) rfl
theorem q311 : Cond.selects RX4 yX4_greatest yX4_greatest ∈ GW := gw2 (List.mem_of_getElem? (i := 215) (by decide +kernel)) rfl
theorem q312 : Cond.code yX4_greatest cX4_greatest 1 (some FieldType.int) ∈ GW := gw2 (List.mem_of_getElem? (i := 216) (by decide +kernel)) rfl
theorem q313 : Cond.methodLink RX4 57 yX4_greatestFrom ∈ GW := gw2 (List.mem_of_getElem? (i := 217) (by decide +kernel)) rfl
theorem q314 : Cond.instanceMethod yX4_greatestFrom ∈ GW := gw2 (List.mem_of_getElem? (i := 219) (by decide +kernel)) rfl
theorem q315 : Cond.code yX4_greatestFrom cX4_greatestFrom 5 (some FieldType.int) ∈ GW := gw2 (List.mem_of_getElem? (i := 220) (by decide +kernel)) rfl
theorem q316 : Cond.methodLink RX4 60 yJ7_fill_53178 ∈ GW := gw2 (List.mem_of_getElem? (i := 221) (by decide +kernel)) rfl
theorem q317 : Cond.methodLink RX4 66 yX4_augment ∈ GW := gw2 (List.mem_of_getElem? (i := 222) (by decide +kernel)) rfl
theorem q318 : Cond.static yX4_augment ∈ GW := gw2 (List.mem_of_getElem? (i := 223) (by decide +kernel)) rfl
theorem q319 : Cond.code yX4_augment cX4_augment 6 (some FieldType.boolean) ∈ GW := gw2 (List.mem_of_getElem? (i := 224) (by decide +kernel)) rfl
theorem q320 : Cond.methodLink RX4 82 yX4_firstThatKeeps ∈ GW := gw2 (List.mem_of_getElem? (i := 225) (by decide +kernel)) rfl
theorem q321 : Cond.instanceMethod yX4_firstThatKeeps ∈ GW := gw2 (List.mem_of_getElem? (i := 227) (by decide +kernel)) rfl
theorem q322 : Cond.code yX4_firstThatKeeps cX4_firstThatKeeps 6 (some FieldType.int) ∈ GW := gw2 (List.mem_of_getElem? (i := 228) (by decide +kernel)) rfl
theorem q323 : Cond.methodLink RX8 148 yX4_chosenFor ∈ GW := gw2 (List.mem_of_getElem? (i := 229) (by decide +kernel)) rfl
theorem q324 : Cond.instanceMethod yX4_chosenFor ∈ GW := gw2 (List.mem_of_getElem? (i := 230) (by decide +kernel)) rfl
theorem q325 : Cond.selects RX4 yX4_chosenFor yX4_chosenFor ∈ GW := gw2 (List.mem_of_getElem? (i := 231) (by decide +kernel)) rfl
theorem q326 : Cond.code yX4_chosenFor cX4_chosenFor 2 (some FieldType.int) ∈ GW := gw2 (List.mem_of_getElem? (i := 232) (by decide +kernel)) rfl
theorem q327 : Cond.methodLink RX8 132 yX8_book ∈ GW := gw2 (List.mem_of_getElem? (i := 233) (by decide +kernel)) rfl
theorem q328 : Cond.instanceMethod yX8_book ∈ GW := gw2 (List.mem_of_getElem? (i := 235) (by decide +kernel)) rfl
theorem q329 : Cond.code yX8_book cX8_book 6 none ∈ GW := gw2 (List.mem_of_getElem? (i := 236) (by decide +kernel)) rfl
theorem q330 : Cond.methodLink RX8 154 yX5_borrowerAt ∈ GW := gw2 (List.mem_of_getElem? (i := 237) (by decide +kernel)) rfl
theorem q331 : Cond.instanceMethod yX5_borrowerAt ∈ GW := gw2 (List.mem_of_getElem? (i := 238) (by decide +kernel)) rfl
theorem q332 : Cond.selects RX5 yX5_borrowerAt yX5_borrowerAt ∈ GW := gw2 (List.mem_of_getElem? (i := 239) (by decide +kernel)) rfl
theorem q333 : Cond.code yX5_borrowerAt cX5_borrowerAt 2 (some FieldType.int) ∈ GW := gw3 (List.mem_of_getElem? (i := 0) (by decide +kernel)) rfl
theorem q334 : Cond.methodLink RX8 157 yX0_add ∈ GW := gw3 (List.mem_of_getElem? (i := 1) (by decide +kernel)) rfl
theorem q335 : Cond.instanceMethod yX0_add ∈ GW := gw3 (List.mem_of_getElem? (i := 2) (by decide +kernel)) rfl
theorem q336 : Cond.selects RX0 yX0_add yX0_add ∈ GW := gw3 (List.mem_of_getElem? (i := 3) (by decide +kernel)) rfl
theorem q337 : Cond.code yX0_add cX0_add 5 none ∈ GW := gw3 (List.mem_of_getElem? (i := 4) (by decide +kernel)) rfl
theorem q338 : Cond.methodLink RX9 73 yX9_settled ∈ GW := gw3 (List.mem_of_getElem? (i := 5) (by decide +kernel)) rfl
theorem q339 : Cond.instanceMethod yX9_settled ∈ GW := gw3 (List.mem_of_getElem? (i := 7) (by decide +kernel)) rfl
theorem q340 : Cond.code yX9_settled cX9_settled 2 (some FieldType.int) ∈ GW := gw3 (List.mem_of_getElem? (i := 8) (by decide +kernel)) rfl
theorem q341 : Cond.classLink RX9 107 "java/lang/IllegalArgumentException" ∈ GW := gw3 (List.mem_of_getElem? (i := 9) (by decide +kernel)) rfl
theorem q342 : Cond.instantiable "java/lang/IllegalArgumentException" 6 ∈ GW := gw3 (List.mem_of_getElem? (i := 10) (by decide +kernel)) rfl
theorem q350 : Cond.selects "java/lang/IllegalArgumentException" ⟨"java/lang/Throwable", "fillInStackTrace", "(I)Ljava/lang/Throwable;"⟩ ⟨"java/lang/Throwable", "fillInStackTrace", "(I)Ljava/lang/Throwable;"⟩ ∈ GW := gw3 (List.mem_of_getElem? (i := 18) (by decide +kernel)) rfl
theorem q351 : Cond.selects "java/lang/IllegalArgumentException" ⟨"java/lang/Throwable", "fillInStackTrace", "()Ljava/lang/Throwable;"⟩ ⟨"java/lang/Throwable", "fillInStackTrace", "()Ljava/lang/Throwable;"⟩ ∈ GW := gw3 (List.mem_of_getElem? (i := 19) (by decide +kernel)) rfl
theorem q383 : Cond.fieldLink "java/lang/Throwable" 198 "java/lang/Throwable" "backtrace" "Ljava/lang/Object;" ∈ GW := gw3 (List.mem_of_getElem? (i := 30) (by decide +kernel)) rfl
theorem q353 : Cond.instanceMethod ⟨"java/lang/Throwable", "<init>", "()V"⟩ ∈ GW := gw3 (List.mem_of_getElem? (i := 32) (by decide +kernel)) rfl
theorem q354 : Cond.code ⟨"java/lang/Throwable", "<init>", "()V"⟩ prog_35_method_1_code 1 none ∈ GW := gw3 (List.mem_of_getElem? (i := 33) (by decide +kernel)) rfl
theorem q355 : Cond.methodLink "java/lang/Throwable" 1 ⟨"java/lang/Object", "<init>", "()V"⟩ ∈ GW := gw3 (List.mem_of_getElem? (i := 34) (by decide +kernel)) rfl
theorem q356 : Cond.fieldLink "java/lang/Throwable" 13 "java/lang/Throwable" "UNASSIGNED_STACK" "[Ljava/lang/StackTraceElement;" ∈ GW := gw3 (List.mem_of_getElem? (i := 35) (by decide +kernel)) rfl
theorem q357 : Cond.fieldLink "java/lang/Throwable" 20 "java/lang/Throwable" "SUPPRESSED_SENTINEL" "Ljava/util/List;" ∈ GW := gw3 (List.mem_of_getElem? (i := 37) (by decide +kernel)) rfl
theorem q358 : Cond.methodLink "java/lang/Throwable" 27 ⟨"java/lang/Throwable", "fillInStackTrace", "()Ljava/lang/Throwable;"⟩ ∈ GW := gw3 (List.mem_of_getElem? (i := 39) (by decide +kernel)) rfl
theorem q359 : Cond.instanceMethod ⟨"java/lang/Throwable", "fillInStackTrace", "()Ljava/lang/Throwable;"⟩ ∈ GW := gw3 (List.mem_of_getElem? (i := 40) (by decide +kernel)) rfl
theorem q360 : Cond.selects "java/lang/ArithmeticException" ⟨"java/lang/Throwable", "fillInStackTrace", "()Ljava/lang/Throwable;"⟩ ⟨"java/lang/Throwable", "fillInStackTrace", "()Ljava/lang/Throwable;"⟩ ∈ GW := gw3 (List.mem_of_getElem? (i := 42) (by decide +kernel)) rfl
theorem q361 : Cond.selects RJx00060 ⟨"java/lang/Throwable", "fillInStackTrace", "()Ljava/lang/Throwable;"⟩ ⟨"java/lang/Throwable", "fillInStackTrace", "()Ljava/lang/Throwable;"⟩ ∈ GW := gw3 (List.mem_of_getElem? (i := 43) (by decide +kernel)) rfl
theorem q362 : Cond.selects "java/lang/IllegalStateException" ⟨"java/lang/Throwable", "fillInStackTrace", "()Ljava/lang/Throwable;"⟩ ⟨"java/lang/Throwable", "fillInStackTrace", "()Ljava/lang/Throwable;"⟩ ∈ GW := gw3 (List.mem_of_getElem? (i := 44) (by decide +kernel)) rfl
theorem q363 : Cond.selects "java/lang/IndexOutOfBoundsException" ⟨"java/lang/Throwable", "fillInStackTrace", "()Ljava/lang/Throwable;"⟩ ⟨"java/lang/Throwable", "fillInStackTrace", "()Ljava/lang/Throwable;"⟩ ∈ GW := gw3 (List.mem_of_getElem? (i := 45) (by decide +kernel)) rfl
theorem q364 : Cond.selects RJx7c733 ⟨"java/lang/Throwable", "fillInStackTrace", "()Ljava/lang/Throwable;"⟩ ⟨"java/lang/Throwable", "fillInStackTrace", "()Ljava/lang/Throwable;"⟩ ∈ GW := gw3 (List.mem_of_getElem? (i := 46) (by decide +kernel)) rfl
theorem q365 : Cond.selects "java/lang/UnsupportedOperationException" ⟨"java/lang/Throwable", "fillInStackTrace", "()Ljava/lang/Throwable;"⟩ ⟨"java/lang/Throwable", "fillInStackTrace", "()Ljava/lang/Throwable;"⟩ ∈ GW := gw3 (List.mem_of_getElem? (i := 47) (by decide +kernel)) rfl
theorem q366 : Cond.selects "java/util/NoSuchElementException" ⟨"java/lang/Throwable", "fillInStackTrace", "()Ljava/lang/Throwable;"⟩ ⟨"java/lang/Throwable", "fillInStackTrace", "()Ljava/lang/Throwable;"⟩ ∈ GW := gw3 (List.mem_of_getElem? (i := 48) (by decide +kernel)) rfl
theorem q367 : Cond.methodLink "java/lang/Throwable" 202 ⟨"java/lang/Throwable", "fillInStackTrace", "(I)Ljava/lang/Throwable;"⟩ ∈ GW := gw3 (List.mem_of_getElem? (i := 50) (by decide +kernel)) rfl
theorem q368 : Cond.instanceMethod ⟨"java/lang/Throwable", "fillInStackTrace", "(I)Ljava/lang/Throwable;"⟩ ∈ GW := gw3 (List.mem_of_getElem? (i := 52) (by decide +kernel)) rfl
theorem q369 : Cond.instantiable "java/lang/Throwable" 6 ∈ GW := gw3 (List.mem_of_getElem? (i := 53) (by decide +kernel)) rfl
theorem q370 : Cond.native ⟨"java/lang/Throwable", "fillInStackTrace", "(I)Ljava/lang/Throwable;"⟩ ∈ GW := gw3 (List.mem_of_getElem? (i := 54) (by decide +kernel)) rfl
theorem q371 : Cond.methodLink RX9 111 ⟨"java/lang/IllegalArgumentException", "<init>", "(Ljava/lang/String;)V"⟩ ∈ GW := gw3 (List.mem_of_getElem? (i := 56) (by decide +kernel)) rfl
theorem q372 : Cond.instanceMethod ⟨"java/lang/IllegalArgumentException", "<init>", "(Ljava/lang/String;)V"⟩ ∈ GW := gw3 (List.mem_of_getElem? (i := 57) (by decide +kernel)) rfl
theorem q373 : Cond.code ⟨"java/lang/IllegalArgumentException", "<init>", "(Ljava/lang/String;)V"⟩ prog_22_method_2_code 2 none ∈ GW := gw3 (List.mem_of_getElem? (i := 58) (by decide +kernel)) rfl
theorem q374 : Cond.methodLink "java/lang/IllegalArgumentException" 7 ⟨"java/lang/RuntimeException", "<init>", "(Ljava/lang/String;)V"⟩ ∈ GW := gw3 (List.mem_of_getElem? (i := 59) (by decide +kernel)) rfl
theorem q375 : Cond.instanceMethod ⟨"java/lang/RuntimeException", "<init>", "(Ljava/lang/String;)V"⟩ ∈ GW := gw3 (List.mem_of_getElem? (i := 60) (by decide +kernel)) rfl
theorem q376 : Cond.code ⟨"java/lang/RuntimeException", "<init>", "(Ljava/lang/String;)V"⟩ prog_28_method_2_code 2 none ∈ GW := gw3 (List.mem_of_getElem? (i := 61) (by decide +kernel)) rfl
theorem q377 : Cond.methodLink "java/lang/RuntimeException" 7 ⟨"java/lang/Exception", "<init>", "(Ljava/lang/String;)V"⟩ ∈ GW := gw3 (List.mem_of_getElem? (i := 62) (by decide +kernel)) rfl
theorem q378 : Cond.instanceMethod ⟨"java/lang/Exception", "<init>", "(Ljava/lang/String;)V"⟩ ∈ GW := gw3 (List.mem_of_getElem? (i := 63) (by decide +kernel)) rfl
theorem q379 : Cond.code ⟨"java/lang/Exception", "<init>", "(Ljava/lang/String;)V"⟩ prog_21_method_2_code 2 none ∈ GW := gw3 (List.mem_of_getElem? (i := 64) (by decide +kernel)) rfl
theorem q380 : Cond.methodLink "java/lang/Exception" 7 ⟨"java/lang/Throwable", "<init>", "(Ljava/lang/String;)V"⟩ ∈ GW := gw3 (List.mem_of_getElem? (i := 65) (by decide +kernel)) rfl
theorem q381 : Cond.instanceMethod ⟨"java/lang/Throwable", "<init>", "(Ljava/lang/String;)V"⟩ ∈ GW := gw3 (List.mem_of_getElem? (i := 66) (by decide +kernel)) rfl
theorem q382 : Cond.code ⟨"java/lang/Throwable", "<init>", "(Ljava/lang/String;)V"⟩ prog_35_method_2_code 2 none ∈ GW := gw3 (List.mem_of_getElem? (i := 67) (by decide +kernel)) rfl
theorem q2001 : Cond.fieldLink "java/lang/Throwable" 198 "java/lang/Throwable" "backtrace" "Ljava/lang/Object;" ∈ GW := gw3 (List.mem_of_getElem? (i := 68) (by decide +kernel)) rfl
theorem q384 : Cond.fieldLink "java/lang/Throwable" 31 "java/lang/Throwable" "detailMessage" "Ljava/lang/String;" ∈ GW := gw3 (List.mem_of_getElem? (i := 69) (by decide +kernel)) rfl
theorem q385 : Cond.fieldLink "java/lang/Throwable" 7 "java/lang/Throwable" "cause" "Ljava/lang/Throwable;" ∈ GW := gw3 (List.mem_of_getElem? (i := 70) (by decide +kernel)) rfl
theorem q386 : Cond.fieldLink "java/lang/Throwable" 17 "java/lang/Throwable" "stackTrace" "[Ljava/lang/StackTraceElement;" ∈ GW := gw3 (List.mem_of_getElem? (i := 71) (by decide +kernel)) rfl
theorem q387 : Cond.fieldLink "java/lang/Throwable" 24 "java/lang/Throwable" "suppressedExceptions" "Ljava/util/List;" ∈ GW := gw3 (List.mem_of_getElem? (i := 72) (by decide +kernel)) rfl
theorem q388 : Cond.classLink RX9 114 "java/lang/IndexOutOfBoundsException" ∈ GW := gw3 (List.mem_of_getElem? (i := 81) (by decide +kernel)) rfl
theorem q389 : Cond.instantiable "java/lang/IndexOutOfBoundsException" 6 ∈ GW := gw3 (List.mem_of_getElem? (i := 82) (by decide +kernel)) rfl
theorem q391 : Cond.selects "java/lang/IndexOutOfBoundsException" ⟨"java/lang/Throwable", "fillInStackTrace", "(I)Ljava/lang/Throwable;"⟩ ⟨"java/lang/Throwable", "fillInStackTrace", "(I)Ljava/lang/Throwable;"⟩ ∈ GW := gw3 (List.mem_of_getElem? (i := 84) (by decide +kernel)) rfl
theorem q392 : Cond.methodLink RX9 118 ⟨"java/lang/IndexOutOfBoundsException", "<init>", "(Ljava/lang/String;)V"⟩ ∈ GW := gw3 (List.mem_of_getElem? (i := 91) (by decide +kernel)) rfl
theorem q393 : Cond.instanceMethod ⟨"java/lang/IndexOutOfBoundsException", "<init>", "(Ljava/lang/String;)V"⟩ ∈ GW := gw3 (List.mem_of_getElem? (i := 92) (by decide +kernel)) rfl
theorem q394 : Cond.code ⟨"java/lang/IndexOutOfBoundsException", "<init>", "(Ljava/lang/String;)V"⟩ prog_24_method_2_code 2 none ∈ GW := gw3 (List.mem_of_getElem? (i := 93) (by decide +kernel)) rfl
theorem q395 : Cond.methodLink "java/lang/IndexOutOfBoundsException" 7 ⟨"java/lang/RuntimeException", "<init>", "(Ljava/lang/String;)V"⟩ ∈ GW := gw3 (List.mem_of_getElem? (i := 94) (by decide +kernel)) rfl
theorem q396 : Cond.classLink RX9 119 "java/lang/IllegalStateException" ∈ GW := gw3 (List.mem_of_getElem? (i := 97) (by decide +kernel)) rfl
theorem q397 : Cond.instantiable "java/lang/IllegalStateException" 6 ∈ GW := gw3 (List.mem_of_getElem? (i := 98) (by decide +kernel)) rfl
theorem q399 : Cond.selects "java/lang/IllegalStateException" ⟨"java/lang/Throwable", "fillInStackTrace", "(I)Ljava/lang/Throwable;"⟩ ⟨"java/lang/Throwable", "fillInStackTrace", "(I)Ljava/lang/Throwable;"⟩ ∈ GW := gw3 (List.mem_of_getElem? (i := 100) (by decide +kernel)) rfl
theorem q400 : Cond.methodLink RX9 123 ⟨"java/lang/IllegalStateException", "<init>", "(Ljava/lang/String;)V"⟩ ∈ GW := gw3 (List.mem_of_getElem? (i := 107) (by decide +kernel)) rfl
theorem q401 : Cond.instanceMethod ⟨"java/lang/IllegalStateException", "<init>", "(Ljava/lang/String;)V"⟩ ∈ GW := gw3 (List.mem_of_getElem? (i := 108) (by decide +kernel)) rfl
theorem q402 : Cond.code ⟨"java/lang/IllegalStateException", "<init>", "(Ljava/lang/String;)V"⟩ prog_23_method_2_code 2 none ∈ GW := gw3 (List.mem_of_getElem? (i := 109) (by decide +kernel)) rfl
theorem q403 : Cond.methodLink "java/lang/IllegalStateException" 7 ⟨"java/lang/RuntimeException", "<init>", "(Ljava/lang/String;)V"⟩ ∈ GW := gw3 (List.mem_of_getElem? (i := 110) (by decide +kernel)) rfl
theorem q404 : Cond.classLink RX9 124 "java/util/NoSuchElementException" ∈ GW := gw3 (List.mem_of_getElem? (i := 113) (by decide +kernel)) rfl
theorem q405 : Cond.instantiable "java/util/NoSuchElementException" 6 ∈ GW := gw3 (List.mem_of_getElem? (i := 114) (by decide +kernel)) rfl
theorem q407 : Cond.selects "java/util/NoSuchElementException" ⟨"java/lang/Throwable", "fillInStackTrace", "(I)Ljava/lang/Throwable;"⟩ ⟨"java/lang/Throwable", "fillInStackTrace", "(I)Ljava/lang/Throwable;"⟩ ∈ GW := gw3 (List.mem_of_getElem? (i := 116) (by decide +kernel)) rfl
theorem q408 : Cond.methodLink RX9 128 ⟨"java/util/NoSuchElementException", "<init>", "(Ljava/lang/String;)V"⟩ ∈ GW := gw3 (List.mem_of_getElem? (i := 123) (by decide +kernel)) rfl
theorem q409 : Cond.instanceMethod ⟨"java/util/NoSuchElementException", "<init>", "(Ljava/lang/String;)V"⟩ ∈ GW := gw3 (List.mem_of_getElem? (i := 124) (by decide +kernel)) rfl
theorem q410 : Cond.code ⟨"java/util/NoSuchElementException", "<init>", "(Ljava/lang/String;)V"⟩ prog_40_method_4_code 2 none ∈ GW := gw3 (List.mem_of_getElem? (i := 125) (by decide +kernel)) rfl
theorem q411 : Cond.methodLink "java/util/NoSuchElementException" 13 ⟨"java/lang/RuntimeException", "<init>", "(Ljava/lang/String;)V"⟩ ∈ GW := gw3 (List.mem_of_getElem? (i := 126) (by decide +kernel)) rfl
theorem q412 : Cond.classLink RX9 129 "java/lang/UnsupportedOperationException" ∈ GW := gw3 (List.mem_of_getElem? (i := 129) (by decide +kernel)) rfl
theorem q413 : Cond.instantiable "java/lang/UnsupportedOperationException" 6 ∈ GW := gw3 (List.mem_of_getElem? (i := 130) (by decide +kernel)) rfl
theorem q415 : Cond.selects "java/lang/UnsupportedOperationException" ⟨"java/lang/Throwable", "fillInStackTrace", "(I)Ljava/lang/Throwable;"⟩ ⟨"java/lang/Throwable", "fillInStackTrace", "(I)Ljava/lang/Throwable;"⟩ ∈ GW := gw3 (List.mem_of_getElem? (i := 132) (by decide +kernel)) rfl
theorem q416 : Cond.methodLink RX9 133 ⟨"java/lang/UnsupportedOperationException", "<init>", "(Ljava/lang/String;)V"⟩ ∈ GW := gw3 (List.mem_of_getElem? (i := 139) (by decide +kernel)) rfl
theorem q417 : Cond.instanceMethod ⟨"java/lang/UnsupportedOperationException", "<init>", "(Ljava/lang/String;)V"⟩ ∈ GW := gw3 (List.mem_of_getElem? (i := 140) (by decide +kernel)) rfl
theorem q418 : Cond.code ⟨"java/lang/UnsupportedOperationException", "<init>", "(Ljava/lang/String;)V"⟩ prog_36_method_2_code 2 none ∈ GW := gw3 (List.mem_of_getElem? (i := 141) (by decide +kernel)) rfl
theorem q419 : Cond.methodLink "java/lang/UnsupportedOperationException" 7 ⟨"java/lang/RuntimeException", "<init>", "(Ljava/lang/String;)V"⟩ ∈ GW := gw3 (List.mem_of_getElem? (i := 142) (by decide +kernel)) rfl
theorem q420 : Cond.methodLink RX9 134 yX3_keep ∈ GW := gw3 (List.mem_of_getElem? (i := 145) (by decide +kernel)) rfl
theorem q421 : Cond.instanceMethod yX3_keep ∈ GW := gw3 (List.mem_of_getElem? (i := 146) (by decide +kernel)) rfl
theorem q422 : Cond.selects RX3 yX3_keep yX3_keep ∈ GW := gw3 (List.mem_of_getElem? (i := 147) (by decide +kernel)) rfl
theorem q423 : Cond.code yX3_keep cX3_keep 1 none ∈ GW := gw3 (List.mem_of_getElem? (i := 148) (by decide +kernel)) rfl
theorem q424 : Cond.methodLink RX3 33 yJ9_min_7cf53 ∈ GW := gw3 (List.mem_of_getElem? (i := 149) (by decide +kernel)) rfl
theorem q425 : Cond.methodLink RL 199 yX9_hammerCount ∈ GW := gw3 (List.mem_of_getElem? (i := 150) (by decide +kernel)) rfl
theorem q426 : Cond.instanceMethod yX9_hammerCount ∈ GW := gw3 (List.mem_of_getElem? (i := 151) (by decide +kernel)) rfl
theorem q427 : Cond.selects RX9 yX9_hammerCount yX9_hammerCount ∈ GW := gw3 (List.mem_of_getElem? (i := 152) (by decide +kernel)) rfl
theorem q428 : Cond.code yX9_hammerCount cX9_hammerCount 1 (some FieldType.int) ∈ GW := gw3 (List.mem_of_getElem? (i := 153) (by decide +kernel)) rfl
theorem q429 : Cond.methodLink RX9 141 yX2_size ∈ GW := gw3 (List.mem_of_getElem? (i := 154) (by decide +kernel)) rfl
theorem q430 : Cond.methodLink RL 233 yX9_requestCount ∈ GW := gw3 (List.mem_of_getElem? (i := 155) (by decide +kernel)) rfl
theorem q431 : Cond.instanceMethod yX9_requestCount ∈ GW := gw3 (List.mem_of_getElem? (i := 156) (by decide +kernel)) rfl
theorem q432 : Cond.selects RX9 yX9_requestCount yX9_requestCount ∈ GW := gw3 (List.mem_of_getElem? (i := 157) (by decide +kernel)) rfl
theorem q433 : Cond.code yX9_requestCount cX9_requestCount 1 (some FieldType.int) ∈ GW := gw3 (List.mem_of_getElem? (i := 158) (by decide +kernel)) rfl
theorem q434 : Cond.methodLink RX9 222 yX5_size ∈ GW := gw3 (List.mem_of_getElem? (i := 159) (by decide +kernel)) rfl
theorem q435 : Cond.methodLink RL 246 yX9_mostGrants ∈ GW := gw3 (List.mem_of_getElem? (i := 160) (by decide +kernel)) rfl
theorem q436 : Cond.instanceMethod yX9_mostGrants ∈ GW := gw3 (List.mem_of_getElem? (i := 161) (by decide +kernel)) rfl
theorem q437 : Cond.selects RX9 yX9_mostGrants yX9_mostGrants ∈ GW := gw3 (List.mem_of_getElem? (i := 162) (by decide +kernel)) rfl
theorem q438 : Cond.code yX9_mostGrants cX9_mostGrants 1 (some FieldType.int) ∈ GW := gw3 (List.mem_of_getElem? (i := 163) (by decide +kernel)) rfl
theorem q439 : Cond.methodLink RX9 245 yX4_load ∈ GW := gw3 (List.mem_of_getElem? (i := 164) (by decide +kernel)) rfl
theorem q440 : Cond.methodLink RX9 248 yX4_greatest ∈ GW := gw3 (List.mem_of_getElem? (i := 165) (by decide +kernel)) rfl
theorem q441 : Cond.methodLink RL 250 yX9_mostGrantsBySets ∈ GW := gw3 (List.mem_of_getElem? (i := 166) (by decide +kernel)) rfl
theorem q442 : Cond.instanceMethod yX9_mostGrantsBySets ∈ GW := gw3 (List.mem_of_getElem? (i := 167) (by decide +kernel)) rfl
theorem q443 : Cond.selects RX9 yX9_mostGrantsBySets yX9_mostGrantsBySets ∈ GW := gw3 (List.mem_of_getElem? (i := 168) (by decide +kernel)) rfl
theorem q444 : Cond.code yX9_mostGrantsBySets cX9_mostGrantsBySets 1 (some FieldType.int) ∈ GW := gw3 (List.mem_of_getElem? (i := 169) (by decide +kernel)) rfl
theorem q445 : Cond.methodLink RX9 251 yX4_greatestBySets ∈ GW := gw3 (List.mem_of_getElem? (i := 170) (by decide +kernel)) rfl
theorem q446 : Cond.instanceMethod yX4_greatestBySets ∈ GW := gw3 (List.mem_of_getElem? (i := 171) (by decide +kernel)) rfl
theorem q447 : Cond.selects RX4 yX4_greatestBySets yX4_greatestBySets ∈ GW := gw3 (List.mem_of_getElem? (i := 172) (by decide +kernel)) rfl
theorem q448 : Cond.code yX4_greatestBySets cX4_greatestBySets 4 (some FieldType.int) ∈ GW := gw3 (List.mem_of_getElem? (i := 173) (by decide +kernel)) rfl
theorem q449 : Cond.methodLink RX4 70 yJ6_bitCount_0f7a4 ∈ GW := gw3 (List.mem_of_getElem? (i := 174) (by decide +kernel)) rfl
theorem q450 : Cond.static yJ6_bitCount_0f7a4 ∈ GW := gw3 (List.mem_of_getElem? (i := 175) (by decide +kernel)) rfl
theorem q451 : Cond.code yJ6_bitCount_0f7a4 cJ6_bitCount_0f7a4 1 (some FieldType.int) ∈ GW := gw3 (List.mem_of_getElem? (i := 176) (by decide +kernel)) rfl
theorem q452 : Cond.constant RJ6 265 (1431655765) ∈ GW := gw3 (List.mem_of_getElem? (i := 177) (by decide +kernel)) rfl
theorem q453 : Cond.constant RJ6 266 (858993459) ∈ GW := gw3 (List.mem_of_getElem? (i := 178) (by decide +kernel)) rfl
theorem q454 : Cond.constant RJ6 267 (252645135) ∈ GW := gw3 (List.mem_of_getElem? (i := 179) (by decide +kernel)) rfl
theorem q455 : Cond.methodLink RX4 76 yX4_fittingAny ∈ GW := gw3 (List.mem_of_getElem? (i := 180) (by decide +kernel)) rfl
theorem q456 : Cond.instanceMethod yX4_fittingAny ∈ GW := gw3 (List.mem_of_getElem? (i := 182) (by decide +kernel)) rfl
theorem q457 : Cond.code yX4_fittingAny cX4_fittingAny 4 (some FieldType.int) ∈ GW := gw3 (List.mem_of_getElem? (i := 183) (by decide +kernel)) rfl
theorem q458 : Cond.methodLink RL 278 yX9_coins ∈ GW := gw3 (List.mem_of_getElem? (i := 184) (by decide +kernel)) rfl
theorem q459 : Cond.instanceMethod yX9_coins ∈ GW := gw3 (List.mem_of_getElem? (i := 185) (by decide +kernel)) rfl
theorem q460 : Cond.selects RX9 yX9_coins yX9_coins ∈ GW := gw3 (List.mem_of_getElem? (i := 186) (by decide +kernel)) rfl
theorem q461 : Cond.code yX9_coins cX9_coins 1 (some FieldType.int) ∈ GW := gw3 (List.mem_of_getElem? (i := 187) (by decide +kernel)) rfl
theorem q462 : Cond.methodLink RL 282 yX9_coinsByAccounts ∈ GW := gw3 (List.mem_of_getElem? (i := 188) (by decide +kernel)) rfl
theorem q463 : Cond.instanceMethod yX9_coinsByAccounts ∈ GW := gw3 (List.mem_of_getElem? (i := 189) (by decide +kernel)) rfl
theorem q464 : Cond.selects RX9 yX9_coinsByAccounts yX9_coinsByAccounts ∈ GW := gw3 (List.mem_of_getElem? (i := 190) (by decide +kernel)) rfl
theorem q465 : Cond.code yX9_coinsByAccounts cX9_coinsByAccounts 1 (some FieldType.int) ∈ GW := gw3 (List.mem_of_getElem? (i := 191) (by decide +kernel)) rfl
theorem q466 : Cond.methodLink RL 286 yX9_brokenTotal ∈ GW := gw3 (List.mem_of_getElem? (i := 192) (by decide +kernel)) rfl
theorem q467 : Cond.instanceMethod yX9_brokenTotal ∈ GW := gw3 (List.mem_of_getElem? (i := 193) (by decide +kernel)) rfl
theorem q468 : Cond.selects RX9 yX9_brokenTotal yX9_brokenTotal ∈ GW := gw3 (List.mem_of_getElem? (i := 194) (by decide +kernel)) rfl
theorem q469 : Cond.code yX9_brokenTotal cX9_brokenTotal 1 (some FieldType.int) ∈ GW := gw3 (List.mem_of_getElem? (i := 195) (by decide +kernel)) rfl
theorem q470 : Cond.methodLink RL 290 yX9_lentTotal ∈ GW := gw3 (List.mem_of_getElem? (i := 196) (by decide +kernel)) rfl
theorem q471 : Cond.instanceMethod yX9_lentTotal ∈ GW := gw3 (List.mem_of_getElem? (i := 197) (by decide +kernel)) rfl
theorem q472 : Cond.selects RX9 yX9_lentTotal yX9_lentTotal ∈ GW := gw3 (List.mem_of_getElem? (i := 198) (by decide +kernel)) rfl
theorem q473 : Cond.code yX9_lentTotal cX9_lentTotal 1 (some FieldType.int) ∈ GW := gw3 (List.mem_of_getElem? (i := 199) (by decide +kernel)) rfl
theorem q474 : Cond.methodLink RL 294 yX9_day ∈ GW := gw3 (List.mem_of_getElem? (i := 200) (by decide +kernel)) rfl
theorem q475 : Cond.instanceMethod yX9_day ∈ GW := gw3 (List.mem_of_getElem? (i := 201) (by decide +kernel)) rfl
theorem q476 : Cond.selects RX9 yX9_day yX9_day ∈ GW := gw3 (List.mem_of_getElem? (i := 202) (by decide +kernel)) rfl
theorem q477 : Cond.code yX9_day cX9_day 1 (some FieldType.int) ∈ GW := gw3 (List.mem_of_getElem? (i := 203) (by decide +kernel)) rfl
theorem q478 : Cond.methodLink RL 305 yX9_isConsistent ∈ GW := gw3 (List.mem_of_getElem? (i := 204) (by decide +kernel)) rfl
theorem q479 : Cond.instanceMethod yX9_isConsistent ∈ GW := gw3 (List.mem_of_getElem? (i := 205) (by decide +kernel)) rfl
theorem q480 : Cond.selects RX9 yX9_isConsistent yX9_isConsistent ∈ GW := gw3 (List.mem_of_getElem? (i := 206) (by decide +kernel)) rfl
theorem q481 : Cond.code yX9_isConsistent cX9_isConsistent 1 (some FieldType.boolean) ∈ GW := gw3 (List.mem_of_getElem? (i := 207) (by decide +kernel)) rfl
theorem q482 : Cond.methodLink RX9 314 yX9_mostGrants ∈ GW := gw3 (List.mem_of_getElem? (i := 208) (by decide +kernel)) rfl
theorem q483 : Cond.methodLink RX9 317 yX9_mostGrantsBySets ∈ GW := gw3 (List.mem_of_getElem? (i := 209) (by decide +kernel)) rfl
theorem q484 : Cond.methodLink RX9 320 yX9_chordsAgree ∈ GW := gw3 (List.mem_of_getElem? (i := 210) (by decide +kernel)) rfl
theorem q485 : Cond.instanceMethod yX9_chordsAgree ∈ GW := gw3 (List.mem_of_getElem? (i := 212) (by decide +kernel)) rfl
theorem q486 : Cond.code yX9_chordsAgree cX9_chordsAgree 2 (some FieldType.boolean) ∈ GW := gw3 (List.mem_of_getElem? (i := 213) (by decide +kernel)) rfl
theorem q487 : Cond.methodLink RX9 335 yX1_load ∈ GW := gw3 (List.mem_of_getElem? (i := 214) (by decide +kernel)) rfl
theorem q488 : Cond.instanceMethod yX1_load ∈ GW := gw3 (List.mem_of_getElem? (i := 215) (by decide +kernel)) rfl
theorem q489 : Cond.selects RX1 yX1_load yX1_load ∈ GW := gw3 (List.mem_of_getElem? (i := 216) (by decide +kernel)) rfl
theorem q490 : Cond.code yX1_load cX1_load 4 none ∈ GW := gw3 (List.mem_of_getElem? (i := 217) (by decide +kernel)) rfl
theorem q491 : Cond.methodLink RX1 50 yX2_size ∈ GW := gw3 (List.mem_of_getElem? (i := 218) (by decide +kernel)) rfl
theorem q492 : Cond.methodLink RX1 53 yX2_isAway ∈ GW := gw3 (List.mem_of_getElem? (i := 219) (by decide +kernel)) rfl
theorem q493 : Cond.methodLink RX1 31 yX2_pitchOf ∈ GW := gw3 (List.mem_of_getElem? (i := 220) (by decide +kernel)) rfl
theorem q494 : Cond.methodLink RX1 57 yX1_between ∈ GW := gw3 (List.mem_of_getElem? (i := 221) (by decide +kernel)) rfl
theorem q495 : Cond.static yX1_between ∈ GW := gw3 (List.mem_of_getElem? (i := 222) (by decide +kernel)) rfl
theorem q496 : Cond.code yX1_between cX1_between 7 (some FieldType.int) ∈ GW := gw3 (List.mem_of_getElem? (i := 223) (by decide +kernel)) rfl
theorem q497 : Cond.fieldLink RX1 42 "HammerDepot$Chords" "OVERTONES" "[I" ∈ GW := gw3 (List.mem_of_getElem? (i := 224) (by decide +kernel)) rfl
theorem q498 : Cond.methodLink RX1 35 yX1_loudnessAbove ∈ GW := gw3 (List.mem_of_getElem? (i := 226) (by decide +kernel)) rfl
theorem q499 : Cond.static yX1_loudnessAbove ∈ GW := gw3 (List.mem_of_getElem? (i := 227) (by decide +kernel)) rfl
theorem q500 : Cond.code yX1_loudnessAbove cX1_loudnessAbove 1 (some FieldType.int) ∈ GW := gw3 (List.mem_of_getElem? (i := 228) (by decide +kernel)) rfl
theorem q501 : Cond.methodLink RX1 45 yJ9_min_7cf53 ∈ GW := gw3 (List.mem_of_getElem? (i := 229) (by decide +kernel)) rfl
theorem q502 : Cond.methodLink RX9 338 yX1_allow ∈ GW := gw3 (List.mem_of_getElem? (i := 230) (by decide +kernel)) rfl
theorem q503 : Cond.instanceMethod yX1_allow ∈ GW := gw3 (List.mem_of_getElem? (i := 231) (by decide +kernel)) rfl
theorem q504 : Cond.selects RX1 yX1_allow yX1_allow ∈ GW := gw3 (List.mem_of_getElem? (i := 232) (by decide +kernel)) rfl
theorem q505 : Cond.code yX1_allow cX1_allow 2 (some FieldType.boolean) ∈ GW := gw3 (List.mem_of_getElem? (i := 233) (by decide +kernel)) rfl
theorem q506 : Cond.methodLink RX9 276 yX1_best ∈ GW := gw3 (List.mem_of_getElem? (i := 234) (by decide +kernel)) rfl
theorem q507 : Cond.instanceMethod yX1_best ∈ GW := gw3 (List.mem_of_getElem? (i := 235) (by decide +kernel)) rfl
theorem q508 : Cond.selects RX1 yX1_best yX1_best ∈ GW := gw3 (List.mem_of_getElem? (i := 236) (by decide +kernel)) rfl
theorem q509 : Cond.code yX1_best cX1_best 2 (some FieldType.int) ∈ GW := gw3 (List.mem_of_getElem? (i := 237) (by decide +kernel)) rfl
theorem q510 : Cond.methodLink RX1 60 yX1_extend ∈ GW := gw3 (List.mem_of_getElem? (i := 238) (by decide +kernel)) rfl
theorem q511 : Cond.static yX1_extend ∈ GW := gw3 (List.mem_of_getElem? (i := 239) (by decide +kernel)) rfl
theorem q512 : Cond.code yX1_extend cX1_extend 9 (some FieldType.int) ∈ GW := gw4 (List.mem_of_getElem? (i := 0) (by decide +kernel)) rfl
theorem q513 : Cond.methodLink RX1 64 yJ6_bitCount_0f7a4 ∈ GW := gw4 (List.mem_of_getElem? (i := 1) (by decide +kernel)) rfl
theorem q514 : Cond.methodLink RX1 69 yJ9_max_7cf53 ∈ GW := gw4 (List.mem_of_getElem? (i := 2) (by decide +kernel)) rfl
theorem q515 : Cond.static yJ9_max_7cf53 ∈ GW := gw4 (List.mem_of_getElem? (i := 3) (by decide +kernel)) rfl
theorem q516 : Cond.code yJ9_max_7cf53 cJ9_max_7cf53 2 (some FieldType.int) ∈ GW := gw4 (List.mem_of_getElem? (i := 4) (by decide +kernel)) rfl
theorem q517 : Cond.methodLink RX1 72 yX1_withChosen ∈ GW := gw4 (List.mem_of_getElem? (i := 5) (by decide +kernel)) rfl
theorem q518 : Cond.instanceMethod yX1_withChosen ∈ GW := gw4 (List.mem_of_getElem? (i := 7) (by decide +kernel)) rfl
theorem q519 : Cond.code yX1_withChosen cX1_withChosen 5 (some FieldType.int) ∈ GW := gw4 (List.mem_of_getElem? (i := 8) (by decide +kernel)) rfl
theorem q520 : Cond.methodLink RX1 78 yX1_pair ∈ GW := gw4 (List.mem_of_getElem? (i := 9) (by decide +kernel)) rfl
theorem q521 : Cond.instanceMethod yX1_pair ∈ GW := gw4 (List.mem_of_getElem? (i := 11) (by decide +kernel)) rfl
theorem q522 : Cond.code yX1_pair cX1_pair 4 (some FieldType.int) ∈ GW := gw4 (List.mem_of_getElem? (i := 12) (by decide +kernel)) rfl
theorem q523 : Cond.methodLink RX1 75 yX1_greatestStillToCome ∈ GW := gw4 (List.mem_of_getElem? (i := 13) (by decide +kernel)) rfl
theorem q524 : Cond.instanceMethod yX1_greatestStillToCome ∈ GW := gw4 (List.mem_of_getElem? (i := 15) (by decide +kernel)) rfl
theorem q525 : Cond.code yX1_greatestStillToCome cX1_greatestStillToCome 3 (some FieldType.int) ∈ GW := gw4 (List.mem_of_getElem? (i := 16) (by decide +kernel)) rfl
theorem q526 : Cond.methodLink RX9 279 yX1_bestBySets ∈ GW := gw4 (List.mem_of_getElem? (i := 17) (by decide +kernel)) rfl
theorem q527 : Cond.instanceMethod yX1_bestBySets ∈ GW := gw4 (List.mem_of_getElem? (i := 18) (by decide +kernel)) rfl
theorem q528 : Cond.selects RX1 yX1_bestBySets yX1_bestBySets ∈ GW := gw4 (List.mem_of_getElem? (i := 19) (by decide +kernel)) rfl
theorem q529 : Cond.code yX1_bestBySets cX1_bestBySets 4 (some FieldType.int) ∈ GW := gw4 (List.mem_of_getElem? (i := 20) (by decide +kernel)) rfl
theorem q530 : Cond.methodLink RX1 81 yX1_consonanceOf ∈ GW := gw4 (List.mem_of_getElem? (i := 21) (by decide +kernel)) rfl
theorem q531 : Cond.instanceMethod yX1_consonanceOf ∈ GW := gw4 (List.mem_of_getElem? (i := 23) (by decide +kernel)) rfl
theorem q532 : Cond.code yX1_consonanceOf cX1_consonanceOf 4 (some FieldType.int) ∈ GW := gw4 (List.mem_of_getElem? (i := 24) (by decide +kernel)) rfl
theorem q533 : Cond.methodLink RX9 324 yX9_swapsAgree ∈ GW := gw4 (List.mem_of_getElem? (i := 25) (by decide +kernel)) rfl
theorem q534 : Cond.instanceMethod yX9_swapsAgree ∈ GW := gw4 (List.mem_of_getElem? (i := 27) (by decide +kernel)) rfl
theorem q535 : Cond.code yX9_swapsAgree cX9_swapsAgree 3 (some FieldType.boolean) ∈ GW := gw4 (List.mem_of_getElem? (i := 28) (by decide +kernel)) rfl
theorem q536 : Cond.methodLink RX9 282 yX7_codeOf ∈ GW := gw4 (List.mem_of_getElem? (i := 29) (by decide +kernel)) rfl
theorem q537 : Cond.static yX7_codeOf ∈ GW := gw4 (List.mem_of_getElem? (i := 30) (by decide +kernel)) rfl
theorem q538 : Cond.code yX7_codeOf cX7_codeOf 5 (some FieldType.int) ∈ GW := gw4 (List.mem_of_getElem? (i := 31) (by decide +kernel)) rfl
theorem q539 : Cond.methodLink RX7 9 yX2_contentOf ∈ GW := gw4 (List.mem_of_getElem? (i := 32) (by decide +kernel)) rfl
theorem q540 : Cond.instanceMethod yX2_contentOf ∈ GW := gw4 (List.mem_of_getElem? (i := 33) (by decide +kernel)) rfl
theorem q541 : Cond.selects RX2 yX2_contentOf yX2_contentOf ∈ GW := gw4 (List.mem_of_getElem? (i := 34) (by decide +kernel)) rfl
theorem q542 : Cond.code yX2_contentOf cX2_contentOf 3 (some FieldType.int) ∈ GW := gw4 (List.mem_of_getElem? (i := 35) (by decide +kernel)) rfl
theorem q544 : Cond.static yX9_isRack ∈ GW := gw4 (List.mem_of_getElem? (i := 37) (by decide +kernel)) rfl
theorem q545 : Cond.code yX9_isRack cX9_isRack 1 (some FieldType.boolean) ∈ GW := gw4 (List.mem_of_getElem? (i := 38) (by decide +kernel)) rfl
theorem q547 : Cond.static yX9_isPlace ∈ GW := gw4 (List.mem_of_getElem? (i := 40) (by decide +kernel)) rfl
theorem q548 : Cond.code yX9_isPlace cX9_isPlace 1 (some FieldType.boolean) ∈ GW := gw4 (List.mem_of_getElem? (i := 41) (by decide +kernel)) rfl
theorem q549 : Cond.methodLink RX7 15 yX7_numberOf ∈ GW := gw4 (List.mem_of_getElem? (i := 42) (by decide +kernel)) rfl
theorem q550 : Cond.static yX7_numberOf ∈ GW := gw4 (List.mem_of_getElem? (i := 43) (by decide +kernel)) rfl
theorem q551 : Cond.code yX7_numberOf cX7_numberOf 6 (some FieldType.int) ∈ GW := gw4 (List.mem_of_getElem? (i := 44) (by decide +kernel)) rfl
theorem q552 : Cond.methodLink RX7 21 yX2_sortsBefore ∈ GW := gw4 (List.mem_of_getElem? (i := 45) (by decide +kernel)) rfl
theorem q553 : Cond.instanceMethod yX2_sortsBefore ∈ GW := gw4 (List.mem_of_getElem? (i := 46) (by decide +kernel)) rfl
theorem q554 : Cond.selects RX2 yX2_sortsBefore yX2_sortsBefore ∈ GW := gw4 (List.mem_of_getElem? (i := 47) (by decide +kernel)) rfl
theorem q555 : Cond.code yX2_sortsBefore cX2_sortsBefore 4 (some FieldType.boolean) ∈ GW := gw4 (List.mem_of_getElem? (i := 48) (by decide +kernel)) rfl
theorem q556 : Cond.methodLink RX9 287 yX7_leastSwaps ∈ GW := gw4 (List.mem_of_getElem? (i := 49) (by decide +kernel)) rfl
theorem q557 : Cond.static yX7_leastSwaps ∈ GW := gw4 (List.mem_of_getElem? (i := 50) (by decide +kernel)) rfl
theorem q558 : Cond.code yX7_leastSwaps cX7_leastSwaps 2 (some FieldType.int) ∈ GW := gw4 (List.mem_of_getElem? (i := 51) (by decide +kernel)) rfl
theorem q559 : Cond.methodLink RX7 31 yX7_canSort ∈ GW := gw4 (List.mem_of_getElem? (i := 52) (by decide +kernel)) rfl
theorem q560 : Cond.static yX7_canSort ∈ GW := gw4 (List.mem_of_getElem? (i := 53) (by decide +kernel)) rfl
theorem q561 : Cond.code yX7_canSort cX7_canSort 6 (some FieldType.boolean) ∈ GW := gw4 (List.mem_of_getElem? (i := 54) (by decide +kernel)) rfl
theorem q562 : Cond.methodLink RX7 34 yX7_misplaced ∈ GW := gw4 (List.mem_of_getElem? (i := 55) (by decide +kernel)) rfl
theorem q563 : Cond.static yX7_misplaced ∈ GW := gw4 (List.mem_of_getElem? (i := 56) (by decide +kernel)) rfl
theorem q564 : Cond.code yX7_misplaced cX7_misplaced 3 (some FieldType.int) ∈ GW := gw4 (List.mem_of_getElem? (i := 57) (by decide +kernel)) rfl
theorem q565 : Cond.methodLink RX7 25 yX7_contentAt ∈ GW := gw4 (List.mem_of_getElem? (i := 58) (by decide +kernel)) rfl
theorem q566 : Cond.static yX7_contentAt ∈ GW := gw4 (List.mem_of_getElem? (i := 59) (by decide +kernel)) rfl
theorem q567 : Cond.code yX7_contentAt cX7_contentAt 2 (some FieldType.int) ∈ GW := gw4 (List.mem_of_getElem? (i := 60) (by decide +kernel)) rfl
theorem q568 : Cond.methodLink RX7 28 yX7_isMisplaced ∈ GW := gw4 (List.mem_of_getElem? (i := 61) (by decide +kernel)) rfl
theorem q569 : Cond.static yX7_isMisplaced ∈ GW := gw4 (List.mem_of_getElem? (i := 62) (by decide +kernel)) rfl
theorem q570 : Cond.code yX7_isMisplaced cX7_isMisplaced 2 (some FieldType.boolean) ∈ GW := gw4 (List.mem_of_getElem? (i := 63) (by decide +kernel)) rfl
theorem q571 : Cond.methodLink RX7 38 yX7_firstMisplaced ∈ GW := gw4 (List.mem_of_getElem? (i := 64) (by decide +kernel)) rfl
theorem q2002 : Cond.static yX7_firstMisplaced ∈ GW := gw4 (List.mem_of_getElem? (i := 65) (by decide +kernel)) rfl
theorem q2003 : Cond.code yX7_firstMisplaced cX7_firstMisplaced 2 (some FieldType.int) ∈ GW := gw4 (List.mem_of_getElem? (i := 66) (by decide +kernel)) rfl
theorem q2004 : Cond.methodLink RX7 41 yX7_swapped ∈ GW := gw4 (List.mem_of_getElem? (i := 67) (by decide +kernel)) rfl
theorem q572 : Cond.static yX7_swapped ∈ GW := gw4 (List.mem_of_getElem? (i := 68) (by decide +kernel)) rfl
theorem q573 : Cond.code yX7_swapped cX7_swapped 4 (some FieldType.int) ∈ GW := gw4 (List.mem_of_getElem? (i := 69) (by decide +kernel)) rfl
theorem q574 : Cond.methodLink RX9 290 yX7_swapsByCycles ∈ GW := gw4 (List.mem_of_getElem? (i := 70) (by decide +kernel)) rfl
theorem q575 : Cond.static yX7_swapsByCycles ∈ GW := gw4 (List.mem_of_getElem? (i := 71) (by decide +kernel)) rfl
theorem q576 : Cond.code yX7_swapsByCycles cX7_swapsByCycles 5 (some FieldType.int) ∈ GW := gw4 (List.mem_of_getElem? (i := 72) (by decide +kernel)) rfl
theorem q2005 : Cond.methodLink RX7 45 yX7_closedCycleFrom ∈ GW := gw4 (List.mem_of_getElem? (i := 73) (by decide +kernel)) rfl
theorem q578 : Cond.static yX7_closedCycleFrom ∈ GW := gw4 (List.mem_of_getElem? (i := 74) (by decide +kernel)) rfl
theorem q579 : Cond.code yX7_closedCycleFrom cX7_closedCycleFrom 6 (some FieldType.int) ∈ GW := gw4 (List.mem_of_getElem? (i := 75) (by decide +kernel)) rfl
theorem q580 : Cond.methodLink RX9 327 yX9_coins ∈ GW := gw4 (List.mem_of_getElem? (i := 76) (by decide +kernel)) rfl
theorem q581 : Cond.methodLink RX9 329 yX9_coinsByAccounts ∈ GW := gw4 (List.mem_of_getElem? (i := 77) (by decide +kernel)) rfl
theorem q582 : Cond.methodLink RX9 332 yX2_lieWhereTheyShould ∈ GW := gw4 (List.mem_of_getElem? (i := 78) (by decide +kernel)) rfl
theorem q583 : Cond.instanceMethod yX2_lieWhereTheyShould ∈ GW := gw4 (List.mem_of_getElem? (i := 79) (by decide +kernel)) rfl
theorem q584 : Cond.selects RX2 yX2_lieWhereTheyShould yX2_lieWhereTheyShould ∈ GW := gw4 (List.mem_of_getElem? (i := 80) (by decide +kernel)) rfl
theorem q585 : Cond.code yX2_lieWhereTheyShould cX2_lieWhereTheyShould 3 (some FieldType.boolean) ∈ GW := gw4 (List.mem_of_getElem? (i := 81) (by decide +kernel)) rfl
theorem q586 : Cond.methodLink RX2 82 yX2_slotOf ∈ GW := gw4 (List.mem_of_getElem? (i := 82) (by decide +kernel)) rfl
theorem q587 : Cond.instanceMethod yX2_slotOf ∈ GW := gw4 (List.mem_of_getElem? (i := 83) (by decide +kernel)) rfl
theorem q588 : Cond.selects RX2 yX2_slotOf yX2_slotOf ∈ GW := gw4 (List.mem_of_getElem? (i := 84) (by decide +kernel)) rfl
theorem q589 : Cond.code yX2_slotOf cX2_slotOf 2 (some FieldType.int) ∈ GW := gw4 (List.mem_of_getElem? (i := 85) (by decide +kernel)) rfl
theorem q590 : Cond.methodLink RL 336 yX9_save ∈ GW := gw4 (List.mem_of_getElem? (i := 86) (by decide +kernel)) rfl
theorem q591 : Cond.instanceMethod yX9_save ∈ GW := gw4 (List.mem_of_getElem? (i := 87) (by decide +kernel)) rfl
theorem q592 : Cond.selects RX9 yX9_save yX9_save ∈ GW := gw4 (List.mem_of_getElem? (i := 88) (by decide +kernel)) rfl
theorem q593 : Cond.code yX9_save cX9_save 1 (some FieldType.int) ∈ GW := gw4 (List.mem_of_getElem? (i := 89) (by decide +kernel)) rfl
theorem q594 : Cond.methodLink RX9 403 yX8_copyFrom ∈ GW := gw4 (List.mem_of_getElem? (i := 90) (by decide +kernel)) rfl
theorem q595 : Cond.methodLink RL 159 yL_addHammer ∈ GW := gw4 (List.mem_of_getElem? (i := 91) (by decide +kernel)) rfl
theorem q596 : Cond.static yL_addHammer ∈ GW := gw4 (List.mem_of_getElem? (i := 92) (by decide +kernel)) rfl
theorem q597 : Cond.codeWith yL_addHammer cL_addHammer 5 (some FieldType.int) [(0, 10, 13, 13), (0, 10, 17, 15), (0, 10, 21, 17)] ∈ GW := gw4 (List.mem_of_getElem? (i := 93) (by decide +kernel)) rfl
theorem q598 : Cond.classLink RL 13 "java/lang/IllegalArgumentException" ∈ GW := gw4 (List.mem_of_getElem? (i := 94) (by decide +kernel)) rfl
theorem q599 : Cond.classLink RL 15 "java/lang/IndexOutOfBoundsException" ∈ GW := gw4 (List.mem_of_getElem? (i := 95) (by decide +kernel)) rfl
theorem q600 : Cond.instantiable RJx00060 6 ∈ GW := gw4 (List.mem_of_getElem? (i := 96) (by decide +kernel)) rfl
theorem q601 : Cond.instanceMethod yJx00060_init_a7421 ∈ GW := gw4 (List.mem_of_getElem? (i := 97) (by decide +kernel)) rfl
theorem q602 : Cond.code yJx00060_init_a7421 cJx00060_init_a7421 2 none ∈ GW := gw4 (List.mem_of_getElem? (i := 98) (by decide +kernel)) rfl
theorem q603 : Cond.methodLink RJx00060 7 ⟨"java/lang/IndexOutOfBoundsException", "<init>", "(Ljava/lang/String;)V"⟩ ∈ GW := gw4 (List.mem_of_getElem? (i := 99) (by decide +kernel)) rfl
theorem q607 : Cond.selects RJx00060 ⟨"java/lang/Throwable", "fillInStackTrace", "(I)Ljava/lang/Throwable;"⟩ ⟨"java/lang/Throwable", "fillInStackTrace", "(I)Ljava/lang/Throwable;"⟩ ∈ GW := gw4 (List.mem_of_getElem? (i := 110) (by decide +kernel)) rfl
theorem q608 : Cond.instantiable RJ0 4 ∈ GW := gw4 (List.mem_of_getElem? (i := 111) (by decide +kernel)) rfl
theorem q609 : Cond.classLink RL 17 "java/lang/IllegalStateException" ∈ GW := gw4 (List.mem_of_getElem? (i := 116) (by decide +kernel)) rfl
theorem q610 : Cond.methodLink RL 7 yX9_addHammer ∈ GW := gw4 (List.mem_of_getElem? (i := 117) (by decide +kernel)) rfl
theorem q611 : Cond.instanceMethod yX9_addHammer ∈ GW := gw4 (List.mem_of_getElem? (i := 118) (by decide +kernel)) rfl
theorem q612 : Cond.selects RX9 yX9_addHammer yX9_addHammer ∈ GW := gw4 (List.mem_of_getElem? (i := 119) (by decide +kernel)) rfl
theorem q613 : Cond.code yX9_addHammer cX9_addHammer 3 (some FieldType.int) ∈ GW := gw4 (List.mem_of_getElem? (i := 120) (by decide +kernel)) rfl
theorem q614 : Cond.methodLink RX9 69 yX8_enlist ∈ GW := gw4 (List.mem_of_getElem? (i := 121) (by decide +kernel)) rfl
theorem q615 : Cond.instanceMethod yX8_enlist ∈ GW := gw4 (List.mem_of_getElem? (i := 122) (by decide +kernel)) rfl
theorem q616 : Cond.selects RX8 yX8_enlist yX8_enlist ∈ GW := gw4 (List.mem_of_getElem? (i := 123) (by decide +kernel)) rfl
theorem q617 : Cond.code yX8_enlist cX8_enlist 5 (some FieldType.int) ∈ GW := gw4 (List.mem_of_getElem? (i := 124) (by decide +kernel)) rfl
theorem q619 : Cond.methodLink RX8 68 yX2_freePlaceOf ∈ GW := gw4 (List.mem_of_getElem? (i := 126) (by decide +kernel)) rfl
theorem q620 : Cond.instanceMethod yX2_freePlaceOf ∈ GW := gw4 (List.mem_of_getElem? (i := 127) (by decide +kernel)) rfl
theorem q621 : Cond.selects RX2 yX2_freePlaceOf yX2_freePlaceOf ∈ GW := gw4 (List.mem_of_getElem? (i := 128) (by decide +kernel)) rfl
theorem q622 : Cond.code yX2_freePlaceOf cX2_freePlaceOf 3 (some FieldType.int) ∈ GW := gw4 (List.mem_of_getElem? (i := 129) (by decide +kernel)) rfl
theorem q623 : Cond.methodLink RX2 56 yX2_contentOf ∈ GW := gw4 (List.mem_of_getElem? (i := 130) (by decide +kernel)) rfl
theorem q624 : Cond.methodLink RX8 72 yX2_isFull ∈ GW := gw4 (List.mem_of_getElem? (i := 131) (by decide +kernel)) rfl
theorem q625 : Cond.instanceMethod yX2_isFull ∈ GW := gw4 (List.mem_of_getElem? (i := 132) (by decide +kernel)) rfl
theorem q626 : Cond.selects RX2 yX2_isFull yX2_isFull ∈ GW := gw4 (List.mem_of_getElem? (i := 133) (by decide +kernel)) rfl
theorem q627 : Cond.code yX2_isFull cX2_isFull 1 (some FieldType.boolean) ∈ GW := gw4 (List.mem_of_getElem? (i := 134) (by decide +kernel)) rfl
theorem q628 : Cond.methodLink RX8 76 yX2_add ∈ GW := gw4 (List.mem_of_getElem? (i := 135) (by decide +kernel)) rfl
theorem q629 : Cond.instanceMethod yX2_add ∈ GW := gw4 (List.mem_of_getElem? (i := 136) (by decide +kernel)) rfl
theorem q630 : Cond.selects RX2 yX2_add yX2_add ∈ GW := gw4 (List.mem_of_getElem? (i := 137) (by decide +kernel)) rfl
theorem q631 : Cond.code yX2_add cX2_add 3 (some FieldType.int) ∈ GW := gw4 (List.mem_of_getElem? (i := 138) (by decide +kernel)) rfl
theorem q632 : Cond.methodLink RX2 67 yX2_isFull ∈ GW := gw4 (List.mem_of_getElem? (i := 139) (by decide +kernel)) rfl
theorem q633 : Cond.methodLink RX8 79 yX2_setContent ∈ GW := gw4 (List.mem_of_getElem? (i := 140) (by decide +kernel)) rfl
theorem q634 : Cond.instanceMethod yX2_setContent ∈ GW := gw4 (List.mem_of_getElem? (i := 141) (by decide +kernel)) rfl
theorem q635 : Cond.selects RX2 yX2_setContent yX2_setContent ∈ GW := gw4 (List.mem_of_getElem? (i := 142) (by decide +kernel)) rfl
theorem q636 : Cond.code yX2_setContent cX2_setContent 5 none ∈ GW := gw4 (List.mem_of_getElem? (i := 143) (by decide +kernel)) rfl
theorem q637 : Cond.methodLink RL 168 yL_moveHammer ∈ GW := gw4 (List.mem_of_getElem? (i := 144) (by decide +kernel)) rfl
theorem q638 : Cond.static yL_moveHammer ∈ GW := gw4 (List.mem_of_getElem? (i := 145) (by decide +kernel)) rfl
theorem q639 : Cond.codeWith yL_moveHammer cL_moveHammer 5 (some FieldType.int) [(0, 10, 13, 15), (0, 10, 17, 17)] ∈ GW := gw4 (List.mem_of_getElem? (i := 146) (by decide +kernel)) rfl
theorem q640 : Cond.methodLink RL 19 yX9_moveHammer ∈ GW := gw4 (List.mem_of_getElem? (i := 147) (by decide +kernel)) rfl
theorem q641 : Cond.instanceMethod yX9_moveHammer ∈ GW := gw4 (List.mem_of_getElem? (i := 148) (by decide +kernel)) rfl
theorem q642 : Cond.selects RX9 yX9_moveHammer yX9_moveHammer ∈ GW := gw4 (List.mem_of_getElem? (i := 149) (by decide +kernel)) rfl
theorem q643 : Cond.code yX9_moveHammer cX9_moveHammer 3 (some FieldType.int) ∈ GW := gw4 (List.mem_of_getElem? (i := 150) (by decide +kernel)) rfl
theorem q644 : Cond.methodLink RX9 77 yX8_carry ∈ GW := gw4 (List.mem_of_getElem? (i := 151) (by decide +kernel)) rfl
theorem q645 : Cond.instanceMethod yX8_carry ∈ GW := gw4 (List.mem_of_getElem? (i := 152) (by decide +kernel)) rfl
theorem q646 : Cond.selects RX8 yX8_carry yX8_carry ∈ GW := gw4 (List.mem_of_getElem? (i := 153) (by decide +kernel)) rfl
theorem q647 : Cond.code yX8_carry cX8_carry 4 (some FieldType.int) ∈ GW := gw4 (List.mem_of_getElem? (i := 154) (by decide +kernel)) rfl
theorem q648 : Cond.methodLink RX8 89 yX2_slotOf ∈ GW := gw4 (List.mem_of_getElem? (i := 155) (by decide +kernel)) rfl
theorem q649 : Cond.methodLink RX8 92 yX2_takeOut ∈ GW := gw4 (List.mem_of_getElem? (i := 156) (by decide +kernel)) rfl
theorem q650 : Cond.instanceMethod yX2_takeOut ∈ GW := gw4 (List.mem_of_getElem? (i := 157) (by decide +kernel)) rfl
theorem q651 : Cond.selects RX2 yX2_takeOut yX2_takeOut ∈ GW := gw4 (List.mem_of_getElem? (i := 158) (by decide +kernel)) rfl
theorem q652 : Cond.code yX2_takeOut cX2_takeOut 3 none ∈ GW := gw4 (List.mem_of_getElem? (i := 159) (by decide +kernel)) rfl
theorem q653 : Cond.methodLink RL 171 yL_swapPlaces ∈ GW := gw4 (List.mem_of_getElem? (i := 160) (by decide +kernel)) rfl
theorem q654 : Cond.static yL_swapPlaces ∈ GW := gw4 (List.mem_of_getElem? (i := 161) (by decide +kernel)) rfl
theorem q655 : Cond.codeWith yL_swapPlaces cL_swapPlaces 6 (some FieldType.int) [(0, 12, 15, 15), (0, 12, 19, 13)] ∈ GW := gw4 (List.mem_of_getElem? (i := 162) (by decide +kernel)) rfl
theorem q656 : Cond.methodLink RL 22 yX9_swapPlaces ∈ GW := gw4 (List.mem_of_getElem? (i := 163) (by decide +kernel)) rfl
theorem q657 : Cond.instanceMethod yX9_swapPlaces ∈ GW := gw4 (List.mem_of_getElem? (i := 164) (by decide +kernel)) rfl
theorem q658 : Cond.selects RX9 yX9_swapPlaces yX9_swapPlaces ∈ GW := gw4 (List.mem_of_getElem? (i := 165) (by decide +kernel)) rfl
theorem q659 : Cond.code yX9_swapPlaces cX9_swapPlaces 4 (some FieldType.int) ∈ GW := gw4 (List.mem_of_getElem? (i := 166) (by decide +kernel)) rfl
theorem q660 : Cond.methodLink RX9 80 yX8_exchange ∈ GW := gw4 (List.mem_of_getElem? (i := 167) (by decide +kernel)) rfl
theorem q661 : Cond.instanceMethod yX8_exchange ∈ GW := gw4 (List.mem_of_getElem? (i := 168) (by decide +kernel)) rfl
theorem q662 : Cond.selects RX8 yX8_exchange yX8_exchange ∈ GW := gw4 (List.mem_of_getElem? (i := 169) (by decide +kernel)) rfl
theorem q663 : Cond.code yX8_exchange cX8_exchange 5 (some FieldType.int) ∈ GW := gw4 (List.mem_of_getElem? (i := 170) (by decide +kernel)) rfl
theorem q665 : Cond.methodLink RX8 99 yX2_contentOf ∈ GW := gw4 (List.mem_of_getElem? (i := 172) (by decide +kernel)) rfl
theorem q666 : Cond.methodLink RX8 103 yX7_codeOf ∈ GW := gw4 (List.mem_of_getElem? (i := 173) (by decide +kernel)) rfl
theorem q667 : Cond.methodLink RX8 109 yX7_leastSwaps ∈ GW := gw4 (List.mem_of_getElem? (i := 174) (by decide +kernel)) rfl
theorem q668 : Cond.methodLink RL 175 yL_request ∈ GW := gw4 (List.mem_of_getElem? (i := 175) (by decide +kernel)) rfl
theorem q669 : Cond.static yL_request ∈ GW := gw4 (List.mem_of_getElem? (i := 176) (by decide +kernel)) rfl
theorem q670 : Cond.codeWith yL_request cL_request 8 (some FieldType.int) [(0, 16, 19, 13), (0, 16, 23, 17)] ∈ GW := gw4 (List.mem_of_getElem? (i := 177) (by decide +kernel)) rfl
theorem q671 : Cond.methodLink RL 26 yX9_request ∈ GW := gw4 (List.mem_of_getElem? (i := 178) (by decide +kernel)) rfl
theorem q672 : Cond.instanceMethod yX9_request ∈ GW := gw4 (List.mem_of_getElem? (i := 179) (by decide +kernel)) rfl
theorem q673 : Cond.selects RX9 yX9_request yX9_request ∈ GW := gw4 (List.mem_of_getElem? (i := 180) (by decide +kernel)) rfl
theorem q674 : Cond.code yX9_request cX9_request 6 (some FieldType.int) ∈ GW := gw4 (List.mem_of_getElem? (i := 181) (by decide +kernel)) rfl
theorem q675 : Cond.methodLink RX9 84 yX8_ask ∈ GW := gw4 (List.mem_of_getElem? (i := 182) (by decide +kernel)) rfl
theorem q676 : Cond.instanceMethod yX8_ask ∈ GW := gw4 (List.mem_of_getElem? (i := 183) (by decide +kernel)) rfl
theorem q677 : Cond.selects RX8 yX8_ask yX8_ask ∈ GW := gw4 (List.mem_of_getElem? (i := 184) (by decide +kernel)) rfl
theorem q678 : Cond.code yX8_ask cX8_ask 6 (some FieldType.int) ∈ GW := gw4 (List.mem_of_getElem? (i := 185) (by decide +kernel)) rfl
theorem q679 : Cond.methodLink RX8 112 yX5_isFull ∈ GW := gw4 (List.mem_of_getElem? (i := 186) (by decide +kernel)) rfl
theorem q680 : Cond.instanceMethod yX5_isFull ∈ GW := gw4 (List.mem_of_getElem? (i := 187) (by decide +kernel)) rfl
theorem q681 : Cond.selects RX5 yX5_isFull yX5_isFull ∈ GW := gw4 (List.mem_of_getElem? (i := 188) (by decide +kernel)) rfl
theorem q682 : Cond.code yX5_isFull cX5_isFull 1 (some FieldType.boolean) ∈ GW := gw4 (List.mem_of_getElem? (i := 189) (by decide +kernel)) rfl
theorem q683 : Cond.methodLink RX8 113 yX5_add ∈ GW := gw4 (List.mem_of_getElem? (i := 190) (by decide +kernel)) rfl
theorem q684 : Cond.instanceMethod yX5_add ∈ GW := gw4 (List.mem_of_getElem? (i := 191) (by decide +kernel)) rfl
theorem q685 : Cond.selects RX5 yX5_add yX5_add ∈ GW := gw4 (List.mem_of_getElem? (i := 192) (by decide +kernel)) rfl
theorem q686 : Cond.code yX5_add cX5_add 7 (some FieldType.int) ∈ GW := gw4 (List.mem_of_getElem? (i := 193) (by decide +kernel)) rfl
theorem q687 : Cond.methodLink RX5 51 yX5_isFull ∈ GW := gw4 (List.mem_of_getElem? (i := 194) (by decide +kernel)) rfl
theorem q688 : Cond.methodLink RL 179 yL_cancelRequest ∈ GW := gw4 (List.mem_of_getElem? (i := 195) (by decide +kernel)) rfl
theorem q689 : Cond.static yL_cancelRequest ∈ GW := gw4 (List.mem_of_getElem? (i := 196) (by decide +kernel)) rfl
theorem q690 : Cond.codeWith yL_cancelRequest cL_cancelRequest 4 (some FieldType.int) [(0, 9, 12, 34)] ∈ GW := gw4 (List.mem_of_getElem? (i := 197) (by decide +kernel)) rfl
theorem q691 : Cond.classLink RL 34 "java/util/NoSuchElementException" ∈ GW := gw4 (List.mem_of_getElem? (i := 198) (by decide +kernel)) rfl
theorem q692 : Cond.methodLink RL 30 yX9_cancelRequest ∈ GW := gw4 (List.mem_of_getElem? (i := 199) (by decide +kernel)) rfl
theorem q693 : Cond.instanceMethod yX9_cancelRequest ∈ GW := gw4 (List.mem_of_getElem? (i := 200) (by decide +kernel)) rfl
theorem q694 : Cond.selects RX9 yX9_cancelRequest yX9_cancelRequest ∈ GW := gw4 (List.mem_of_getElem? (i := 201) (by decide +kernel)) rfl
theorem q695 : Cond.code yX9_cancelRequest cX9_cancelRequest 2 (some FieldType.int) ∈ GW := gw4 (List.mem_of_getElem? (i := 202) (by decide +kernel)) rfl
theorem q696 : Cond.methodLink RX9 88 yX8_drop ∈ GW := gw4 (List.mem_of_getElem? (i := 203) (by decide +kernel)) rfl
theorem q697 : Cond.instanceMethod yX8_drop ∈ GW := gw4 (List.mem_of_getElem? (i := 204) (by decide +kernel)) rfl
theorem q698 : Cond.selects RX8 yX8_drop yX8_drop ∈ GW := gw4 (List.mem_of_getElem? (i := 205) (by decide +kernel)) rfl
theorem q699 : Cond.code yX8_drop cX8_drop 3 (some FieldType.int) ∈ GW := gw4 (List.mem_of_getElem? (i := 206) (by decide +kernel)) rfl
theorem q700 : Cond.methodLink RX8 116 yX5_positionOf ∈ GW := gw4 (List.mem_of_getElem? (i := 207) (by decide +kernel)) rfl
theorem q701 : Cond.instanceMethod yX5_positionOf ∈ GW := gw4 (List.mem_of_getElem? (i := 208) (by decide +kernel)) rfl
theorem q702 : Cond.selects RX5 yX5_positionOf yX5_positionOf ∈ GW := gw4 (List.mem_of_getElem? (i := 209) (by decide +kernel)) rfl
theorem q703 : Cond.code yX5_positionOf cX5_positionOf 3 (some FieldType.int) ∈ GW := gw4 (List.mem_of_getElem? (i := 210) (by decide +kernel)) rfl
theorem q704 : Cond.methodLink RX5 43 yX5_idAt ∈ GW := gw4 (List.mem_of_getElem? (i := 211) (by decide +kernel)) rfl
theorem q705 : Cond.instanceMethod yX5_idAt ∈ GW := gw4 (List.mem_of_getElem? (i := 212) (by decide +kernel)) rfl
theorem q706 : Cond.selects RX5 yX5_idAt yX5_idAt ∈ GW := gw4 (List.mem_of_getElem? (i := 213) (by decide +kernel)) rfl
theorem q707 : Cond.code yX5_idAt cX5_idAt 2 (some FieldType.int) ∈ GW := gw4 (List.mem_of_getElem? (i := 214) (by decide +kernel)) rfl
theorem q708 : Cond.methodLink RL 183 yL_grant ∈ GW := gw4 (List.mem_of_getElem? (i := 215) (by decide +kernel)) rfl
theorem q709 : Cond.static yL_grant ∈ GW := gw4 (List.mem_of_getElem? (i := 216) (by decide +kernel)) rfl
theorem q710 : Cond.codeWith yL_grant cL_grant 4 (some FieldType.int) [(0, 9, 12, 34), (0, 9, 15, 17), (0, 9, 18, 39)] ∈ GW := gw4 (List.mem_of_getElem? (i := 217) (by decide +kernel)) rfl
theorem q711 : Cond.classLink RL 39 "java/lang/UnsupportedOperationException" ∈ GW := gw4 (List.mem_of_getElem? (i := 218) (by decide +kernel)) rfl
theorem q712 : Cond.methodLink RL 36 yX9_grant ∈ GW := gw4 (List.mem_of_getElem? (i := 219) (by decide +kernel)) rfl
theorem q713 : Cond.instanceMethod yX9_grant ∈ GW := gw4 (List.mem_of_getElem? (i := 220) (by decide +kernel)) rfl
theorem q714 : Cond.selects RX9 yX9_grant yX9_grant ∈ GW := gw4 (List.mem_of_getElem? (i := 221) (by decide +kernel)) rfl
theorem q715 : Cond.code yX9_grant cX9_grant 2 (some FieldType.int) ∈ GW := gw4 (List.mem_of_getElem? (i := 222) (by decide +kernel)) rfl
theorem q716 : Cond.methodLink RX9 91 yX8_grantBest ∈ GW := gw4 (List.mem_of_getElem? (i := 223) (by decide +kernel)) rfl
theorem q717 : Cond.instanceMethod yX8_grantBest ∈ GW := gw4 (List.mem_of_getElem? (i := 224) (by decide +kernel)) rfl
theorem q718 : Cond.selects RX8 yX8_grantBest yX8_grantBest ∈ GW := gw4 (List.mem_of_getElem? (i := 225) (by decide +kernel)) rfl
theorem q719 : Cond.code yX8_grantBest cX8_grantBest 4 (some FieldType.int) ∈ GW := gw4 (List.mem_of_getElem? (i := 226) (by decide +kernel)) rfl
theorem q720 : Cond.methodLink RX8 129 yX8_bestFor ∈ GW := gw4 (List.mem_of_getElem? (i := 227) (by decide +kernel)) rfl
theorem q721 : Cond.instanceMethod yX8_bestFor ∈ GW := gw4 (List.mem_of_getElem? (i := 228) (by decide +kernel)) rfl
theorem q722 : Cond.selects RX8 yX8_bestFor yX8_bestFor ∈ GW := gw4 (List.mem_of_getElem? (i := 229) (by decide +kernel)) rfl
theorem q723 : Cond.code yX8_bestFor cX8_bestFor 6 (some FieldType.int) ∈ GW := gw4 (List.mem_of_getElem? (i := 230) (by decide +kernel)) rfl
theorem q724 : Cond.methodLink RX8 185 yX2_size ∈ GW := gw4 (List.mem_of_getElem? (i := 231) (by decide +kernel)) rfl
theorem q725 : Cond.methodLink RX8 186 yX8_remoteness ∈ GW := gw4 (List.mem_of_getElem? (i := 232) (by decide +kernel)) rfl
theorem q726 : Cond.instanceMethod yX8_remoteness ∈ GW := gw4 (List.mem_of_getElem? (i := 234) (by decide +kernel)) rfl
theorem q727 : Cond.code yX8_remoteness cX8_remoteness 4 (some FieldType.int) ∈ GW := gw4 (List.mem_of_getElem? (i := 235) (by decide +kernel)) rfl
theorem q728 : Cond.methodLink RX8 189 yX8_suits ∈ GW := gw4 (List.mem_of_getElem? (i := 236) (by decide +kernel)) rfl
theorem q729 : Cond.methodLink RL 190 yL_giveBack ∈ GW := gw4 (List.mem_of_getElem? (i := 237) (by decide +kernel)) rfl
theorem q730 : Cond.static yL_giveBack ∈ GW := gw4 (List.mem_of_getElem? (i := 238) (by decide +kernel)) rfl
theorem q731 : Cond.codeWith yL_giveBack cL_giveBack 6 (some FieldType.int) [(0, 12, 15, 15), (0, 12, 19, 13), (0, 12, 23, 17)] ∈ GW := gw4 (List.mem_of_getElem? (i := 239) (by decide +kernel)) rfl
theorem q732 : Cond.methodLink RL 41 yX9_giveBack ∈ GW := gw5 (List.mem_of_getElem? (i := 0) (by decide +kernel)) rfl
theorem q733 : Cond.instanceMethod yX9_giveBack ∈ GW := gw5 (List.mem_of_getElem? (i := 1) (by decide +kernel)) rfl
theorem q734 : Cond.selects RX9 yX9_giveBack yX9_giveBack ∈ GW := gw5 (List.mem_of_getElem? (i := 2) (by decide +kernel)) rfl
theorem q735 : Cond.code yX9_giveBack cX9_giveBack 4 (some FieldType.int) ∈ GW := gw5 (List.mem_of_getElem? (i := 3) (by decide +kernel)) rfl
theorem q736 : Cond.methodLink RX9 98 yX8_takeBack ∈ GW := gw5 (List.mem_of_getElem? (i := 4) (by decide +kernel)) rfl
theorem q737 : Cond.instanceMethod yX8_takeBack ∈ GW := gw5 (List.mem_of_getElem? (i := 5) (by decide +kernel)) rfl
theorem q738 : Cond.selects RX8 yX8_takeBack yX8_takeBack ∈ GW := gw5 (List.mem_of_getElem? (i := 6) (by decide +kernel)) rfl
theorem q739 : Cond.code yX8_takeBack cX8_takeBack 7 (some FieldType.int) ∈ GW := gw5 (List.mem_of_getElem? (i := 7) (by decide +kernel)) rfl
theorem q740 : Cond.methodLink RX8 193 yJ9_min_7cf53 ∈ GW := gw5 (List.mem_of_getElem? (i := 8) (by decide +kernel)) rfl
theorem q741 : Cond.methodLink RX8 196 yJ9_max_7cf53 ∈ GW := gw5 (List.mem_of_getElem? (i := 9) (by decide +kernel)) rfl
theorem q742 : Cond.methodLink RX8 199 yX2_setWear ∈ GW := gw5 (List.mem_of_getElem? (i := 10) (by decide +kernel)) rfl
theorem q743 : Cond.instanceMethod yX2_setWear ∈ GW := gw5 (List.mem_of_getElem? (i := 11) (by decide +kernel)) rfl
theorem q744 : Cond.selects RX2 yX2_setWear yX2_setWear ∈ GW := gw5 (List.mem_of_getElem? (i := 12) (by decide +kernel)) rfl
theorem q745 : Cond.code yX2_setWear cX2_setWear 3 none ∈ GW := gw5 (List.mem_of_getElem? (i := 13) (by decide +kernel)) rfl
theorem q746 : Cond.methodLink RL 193 yL_renewFace ∈ GW := gw5 (List.mem_of_getElem? (i := 14) (by decide +kernel)) rfl
theorem q747 : Cond.static yL_renewFace ∈ GW := gw5 (List.mem_of_getElem? (i := 15) (by decide +kernel)) rfl
theorem q748 : Cond.codeWith yL_renewFace cL_renewFace 4 (some FieldType.int) [(0, 9, 12, 15), (0, 9, 15, 17), (0, 9, 18, 39)] ∈ GW := gw5 (List.mem_of_getElem? (i := 16) (by decide +kernel)) rfl
theorem q749 : Cond.methodLink RL 44 yX9_renewFace ∈ GW := gw5 (List.mem_of_getElem? (i := 17) (by decide +kernel)) rfl
theorem q750 : Cond.instanceMethod yX9_renewFace ∈ GW := gw5 (List.mem_of_getElem? (i := 18) (by decide +kernel)) rfl
theorem q751 : Cond.selects RX9 yX9_renewFace yX9_renewFace ∈ GW := gw5 (List.mem_of_getElem? (i := 19) (by decide +kernel)) rfl
theorem q752 : Cond.code yX9_renewFace cX9_renewFace 2 (some FieldType.int) ∈ GW := gw5 (List.mem_of_getElem? (i := 20) (by decide +kernel)) rfl
theorem q753 : Cond.methodLink RX9 101 yX8_renew ∈ GW := gw5 (List.mem_of_getElem? (i := 21) (by decide +kernel)) rfl
theorem q754 : Cond.instanceMethod yX8_renew ∈ GW := gw5 (List.mem_of_getElem? (i := 22) (by decide +kernel)) rfl
theorem q755 : Cond.selects RX8 yX8_renew yX8_renew ∈ GW := gw5 (List.mem_of_getElem? (i := 23) (by decide +kernel)) rfl
theorem q756 : Cond.code yX8_renew cX8_renew 3 (some FieldType.int) ∈ GW := gw5 (List.mem_of_getElem? (i := 24) (by decide +kernel)) rfl
theorem q757 : Cond.methodLink RL 196 yL_passDays ∈ GW := gw5 (List.mem_of_getElem? (i := 25) (by decide +kernel)) rfl
theorem q758 : Cond.static yL_passDays ∈ GW := gw5 (List.mem_of_getElem? (i := 26) (by decide +kernel)) rfl
theorem q759 : Cond.codeWith yL_passDays cL_passDays 4 (some FieldType.int) [(0, 9, 12, 13)] ∈ GW := gw5 (List.mem_of_getElem? (i := 27) (by decide +kernel)) rfl
theorem q760 : Cond.methodLink RL 47 yX9_passDays ∈ GW := gw5 (List.mem_of_getElem? (i := 28) (by decide +kernel)) rfl
theorem q761 : Cond.instanceMethod yX9_passDays ∈ GW := gw5 (List.mem_of_getElem? (i := 29) (by decide +kernel)) rfl
theorem q762 : Cond.selects RX9 yX9_passDays yX9_passDays ∈ GW := gw5 (List.mem_of_getElem? (i := 30) (by decide +kernel)) rfl
theorem q763 : Cond.code yX9_passDays cX9_passDays 2 (some FieldType.int) ∈ GW := gw5 (List.mem_of_getElem? (i := 31) (by decide +kernel)) rfl
theorem q764 : Cond.methodLink RX9 104 yX8_advance ∈ GW := gw5 (List.mem_of_getElem? (i := 32) (by decide +kernel)) rfl
theorem q765 : Cond.instanceMethod yX8_advance ∈ GW := gw5 (List.mem_of_getElem? (i := 33) (by decide +kernel)) rfl
theorem q766 : Cond.selects RX8 yX8_advance yX8_advance ∈ GW := gw5 (List.mem_of_getElem? (i := 34) (by decide +kernel)) rfl
theorem q767 : Cond.code yX8_advance cX8_advance 4 (some FieldType.int) ∈ GW := gw5 (List.mem_of_getElem? (i := 35) (by decide +kernel)) rfl
theorem q768 : Cond.methodLink RX8 202 yX8_openBookings ∈ GW := gw5 (List.mem_of_getElem? (i := 36) (by decide +kernel)) rfl
theorem q769 : Cond.instanceMethod yX8_openBookings ∈ GW := gw5 (List.mem_of_getElem? (i := 38) (by decide +kernel)) rfl
theorem q770 : Cond.code yX8_openBookings cX8_openBookings 4 none ∈ GW := gw5 (List.mem_of_getElem? (i := 39) (by decide +kernel)) rfl
theorem q771 : Cond.methodLink RX8 205 yX0_size ∈ GW := gw5 (List.mem_of_getElem? (i := 40) (by decide +kernel)) rfl
theorem q772 : Cond.instanceMethod yX0_size ∈ GW := gw5 (List.mem_of_getElem? (i := 41) (by decide +kernel)) rfl
theorem q773 : Cond.selects RX0 yX0_size yX0_size ∈ GW := gw5 (List.mem_of_getElem? (i := 42) (by decide +kernel)) rfl
theorem q774 : Cond.code yX0_size cX0_size 1 (some FieldType.int) ∈ GW := gw5 (List.mem_of_getElem? (i := 43) (by decide +kernel)) rfl
theorem q775 : Cond.methodLink RX8 206 yX0_beginningOn ∈ GW := gw5 (List.mem_of_getElem? (i := 44) (by decide +kernel)) rfl
theorem q776 : Cond.instanceMethod yX0_beginningOn ∈ GW := gw5 (List.mem_of_getElem? (i := 45) (by decide +kernel)) rfl
theorem q777 : Cond.selects RX0 yX0_beginningOn yX0_beginningOn ∈ GW := gw5 (List.mem_of_getElem? (i := 46) (by decide +kernel)) rfl
theorem q778 : Cond.code yX0_beginningOn cX0_beginningOn 3 (some FieldType.int) ∈ GW := gw5 (List.mem_of_getElem? (i := 47) (by decide +kernel)) rfl
theorem q779 : Cond.methodLink RX8 209 yX0_hammerOf ∈ GW := gw5 (List.mem_of_getElem? (i := 48) (by decide +kernel)) rfl
theorem q780 : Cond.instanceMethod yX0_hammerOf ∈ GW := gw5 (List.mem_of_getElem? (i := 49) (by decide +kernel)) rfl
theorem q781 : Cond.selects RX0 yX0_hammerOf yX0_hammerOf ∈ GW := gw5 (List.mem_of_getElem? (i := 50) (by decide +kernel)) rfl
theorem q782 : Cond.code yX0_hammerOf cX0_hammerOf 2 (some FieldType.int) ∈ GW := gw5 (List.mem_of_getElem? (i := 51) (by decide +kernel)) rfl
theorem q783 : Cond.methodLink RX8 212 yX0_borrowerOf ∈ GW := gw5 (List.mem_of_getElem? (i := 52) (by decide +kernel)) rfl
theorem q784 : Cond.instanceMethod yX0_borrowerOf ∈ GW := gw5 (List.mem_of_getElem? (i := 53) (by decide +kernel)) rfl
theorem q785 : Cond.selects RX0 yX0_borrowerOf yX0_borrowerOf ∈ GW := gw5 (List.mem_of_getElem? (i := 54) (by decide +kernel)) rfl
theorem q786 : Cond.code yX0_borrowerOf cX0_borrowerOf 2 (some FieldType.int) ∈ GW := gw5 (List.mem_of_getElem? (i := 55) (by decide +kernel)) rfl
theorem q787 : Cond.methodLink RX8 215 yX0_lastDayOf ∈ GW := gw5 (List.mem_of_getElem? (i := 56) (by decide +kernel)) rfl
theorem q788 : Cond.instanceMethod yX0_lastDayOf ∈ GW := gw5 (List.mem_of_getElem? (i := 57) (by decide +kernel)) rfl
theorem q789 : Cond.selects RX0 yX0_lastDayOf yX0_lastDayOf ∈ GW := gw5 (List.mem_of_getElem? (i := 58) (by decide +kernel)) rfl
theorem q790 : Cond.code yX0_lastDayOf cX0_lastDayOf 2 (some FieldType.int) ∈ GW := gw5 (List.mem_of_getElem? (i := 59) (by decide +kernel)) rfl
theorem q791 : Cond.methodLink RX8 218 yX2_lend ∈ GW := gw5 (List.mem_of_getElem? (i := 60) (by decide +kernel)) rfl
theorem q792 : Cond.instanceMethod yX2_lend ∈ GW := gw5 (List.mem_of_getElem? (i := 61) (by decide +kernel)) rfl
theorem q793 : Cond.selects RX2 yX2_lend yX2_lend ∈ GW := gw5 (List.mem_of_getElem? (i := 62) (by decide +kernel)) rfl
theorem q794 : Cond.code yX2_lend cX2_lend 4 none ∈ GW := gw5 (List.mem_of_getElem? (i := 63) (by decide +kernel)) rfl
theorem q795 : Cond.methodLink RX2 71 yX2_takeOut ∈ GW := gw5 (List.mem_of_getElem? (i := 64) (by decide +kernel)) rfl
theorem q796 : Cond.methodLink RX8 221 yX0_remove ∈ GW := gw5 (List.mem_of_getElem? (i := 65) (by decide +kernel)) rfl
theorem q797 : Cond.instanceMethod yX0_remove ∈ GW := gw5 (List.mem_of_getElem? (i := 66) (by decide +kernel)) rfl
theorem q798 : Cond.selects RX0 yX0_remove yX0_remove ∈ GW := gw5 (List.mem_of_getElem? (i := 67) (by decide +kernel)) rfl
theorem q799 : Cond.code yX0_remove cX0_remove 3 none ∈ GW := gw5 (List.mem_of_getElem? (i := 68) (by decide +kernel)) rfl
theorem q800 : Cond.methodLink RL 203 yL_pitch ∈ GW := gw5 (List.mem_of_getElem? (i := 69) (by decide +kernel)) rfl
theorem q801 : Cond.static yL_pitch ∈ GW := gw5 (List.mem_of_getElem? (i := 70) (by decide +kernel)) rfl
theorem q802 : Cond.codeWith yL_pitch cL_pitch 4 (some FieldType.int) [(0, 9, 12, 15)] ∈ GW := gw5 (List.mem_of_getElem? (i := 71) (by decide +kernel)) rfl
theorem q803 : Cond.methodLink RL 50 yX9_pitch ∈ GW := gw5 (List.mem_of_getElem? (i := 72) (by decide +kernel)) rfl
theorem q804 : Cond.instanceMethod yX9_pitch ∈ GW := gw5 (List.mem_of_getElem? (i := 73) (by decide +kernel)) rfl
theorem q805 : Cond.selects RX9 yX9_pitch yX9_pitch ∈ GW := gw5 (List.mem_of_getElem? (i := 74) (by decide +kernel)) rfl
theorem q806 : Cond.code yX9_pitch cX9_pitch 2 (some FieldType.int) ∈ GW := gw5 (List.mem_of_getElem? (i := 75) (by decide +kernel)) rfl
theorem q807 : Cond.methodLink RX9 147 yX9_requireHammer ∈ GW := gw5 (List.mem_of_getElem? (i := 76) (by decide +kernel)) rfl
theorem q808 : Cond.instanceMethod yX9_requireHammer ∈ GW := gw5 (List.mem_of_getElem? (i := 78) (by decide +kernel)) rfl
theorem q809 : Cond.code yX9_requireHammer cX9_requireHammer 2 none ∈ GW := gw5 (List.mem_of_getElem? (i := 79) (by decide +kernel)) rfl
theorem q810 : Cond.methodLink RX9 413 yX2_has ∈ GW := gw5 (List.mem_of_getElem? (i := 80) (by decide +kernel)) rfl
theorem q811 : Cond.methodLink RX9 151 yX2_pitchOf ∈ GW := gw5 (List.mem_of_getElem? (i := 82) (by decide +kernel)) rfl
theorem q812 : Cond.methodLink RL 206 yL_wear ∈ GW := gw5 (List.mem_of_getElem? (i := 83) (by decide +kernel)) rfl
theorem q813 : Cond.static yL_wear ∈ GW := gw5 (List.mem_of_getElem? (i := 84) (by decide +kernel)) rfl
theorem q814 : Cond.codeWith yL_wear cL_wear 4 (some FieldType.int) [(0, 9, 12, 15)] ∈ GW := gw5 (List.mem_of_getElem? (i := 85) (by decide +kernel)) rfl
theorem q815 : Cond.methodLink RL 53 yX9_wear ∈ GW := gw5 (List.mem_of_getElem? (i := 86) (by decide +kernel)) rfl
theorem q816 : Cond.instanceMethod yX9_wear ∈ GW := gw5 (List.mem_of_getElem? (i := 87) (by decide +kernel)) rfl
theorem q817 : Cond.selects RX9 yX9_wear yX9_wear ∈ GW := gw5 (List.mem_of_getElem? (i := 88) (by decide +kernel)) rfl
theorem q818 : Cond.code yX9_wear cX9_wear 2 (some FieldType.int) ∈ GW := gw5 (List.mem_of_getElem? (i := 89) (by decide +kernel)) rfl
theorem q819 : Cond.methodLink RX9 154 yX2_wearOf ∈ GW := gw5 (List.mem_of_getElem? (i := 90) (by decide +kernel)) rfl
theorem q820 : Cond.methodLink RL 209 yL_isLent ∈ GW := gw5 (List.mem_of_getElem? (i := 91) (by decide +kernel)) rfl
theorem q821 : Cond.static yL_isLent ∈ GW := gw5 (List.mem_of_getElem? (i := 92) (by decide +kernel)) rfl
theorem q822 : Cond.codeWith yL_isLent cL_isLent 4 (some FieldType.int) [(0, 16, 19, 15)] ∈ GW := gw5 (List.mem_of_getElem? (i := 93) (by decide +kernel)) rfl
theorem q823 : Cond.methodLink RL 56 yX9_isLent ∈ GW := gw5 (List.mem_of_getElem? (i := 94) (by decide +kernel)) rfl
theorem q824 : Cond.instanceMethod yX9_isLent ∈ GW := gw5 (List.mem_of_getElem? (i := 95) (by decide +kernel)) rfl
theorem q825 : Cond.selects RX9 yX9_isLent yX9_isLent ∈ GW := gw5 (List.mem_of_getElem? (i := 96) (by decide +kernel)) rfl
theorem q826 : Cond.code yX9_isLent cX9_isLent 2 (some FieldType.boolean) ∈ GW := gw5 (List.mem_of_getElem? (i := 97) (by decide +kernel)) rfl
theorem q827 : Cond.methodLink RX9 157 yX2_isAway ∈ GW := gw5 (List.mem_of_getElem? (i := 98) (by decide +kernel)) rfl
theorem q828 : Cond.methodLink RL 212 yL_borrower ∈ GW := gw5 (List.mem_of_getElem? (i := 99) (by decide +kernel)) rfl
theorem q829 : Cond.static yL_borrower ∈ GW := gw5 (List.mem_of_getElem? (i := 100) (by decide +kernel)) rfl
theorem q830 : Cond.codeWith yL_borrower cL_borrower 4 (some FieldType.int) [(0, 9, 12, 15), (0, 9, 15, 34)] ∈ GW := gw5 (List.mem_of_getElem? (i := 101) (by decide +kernel)) rfl
theorem q831 : Cond.methodLink RL 60 yX9_borrower ∈ GW := gw5 (List.mem_of_getElem? (i := 102) (by decide +kernel)) rfl
theorem q832 : Cond.instanceMethod yX9_borrower ∈ GW := gw5 (List.mem_of_getElem? (i := 103) (by decide +kernel)) rfl
theorem q833 : Cond.selects RX9 yX9_borrower yX9_borrower ∈ GW := gw5 (List.mem_of_getElem? (i := 104) (by decide +kernel)) rfl
theorem q834 : Cond.code yX9_borrower cX9_borrower 2 (some FieldType.int) ∈ GW := gw5 (List.mem_of_getElem? (i := 105) (by decide +kernel)) rfl
theorem q835 : Cond.methodLink RX9 161 yX9_requireLent ∈ GW := gw5 (List.mem_of_getElem? (i := 106) (by decide +kernel)) rfl
theorem q836 : Cond.instanceMethod yX9_requireLent ∈ GW := gw5 (List.mem_of_getElem? (i := 108) (by decide +kernel)) rfl
theorem q837 : Cond.code yX9_requireLent cX9_requireLent 2 none ∈ GW := gw5 (List.mem_of_getElem? (i := 109) (by decide +kernel)) rfl
theorem q838 : Cond.methodLink RX9 164 yX2_borrowerOf ∈ GW := gw5 (List.mem_of_getElem? (i := 111) (by decide +kernel)) rfl
theorem q839 : Cond.instanceMethod yX2_borrowerOf ∈ GW := gw5 (List.mem_of_getElem? (i := 112) (by decide +kernel)) rfl
theorem q840 : Cond.selects RX2 yX2_borrowerOf yX2_borrowerOf ∈ GW := gw5 (List.mem_of_getElem? (i := 113) (by decide +kernel)) rfl
theorem q841 : Cond.code yX2_borrowerOf cX2_borrowerOf 2 (some FieldType.int) ∈ GW := gw5 (List.mem_of_getElem? (i := 114) (by decide +kernel)) rfl
theorem q842 : Cond.methodLink RL 215 yL_dueDay ∈ GW := gw5 (List.mem_of_getElem? (i := 115) (by decide +kernel)) rfl
theorem q843 : Cond.static yL_dueDay ∈ GW := gw5 (List.mem_of_getElem? (i := 116) (by decide +kernel)) rfl
theorem q844 : Cond.codeWith yL_dueDay cL_dueDay 4 (some FieldType.int) [(0, 9, 12, 15), (0, 9, 15, 34)] ∈ GW := gw5 (List.mem_of_getElem? (i := 117) (by decide +kernel)) rfl
theorem q845 : Cond.methodLink RL 63 yX9_dueDay ∈ GW := gw5 (List.mem_of_getElem? (i := 118) (by decide +kernel)) rfl
theorem q846 : Cond.instanceMethod yX9_dueDay ∈ GW := gw5 (List.mem_of_getElem? (i := 119) (by decide +kernel)) rfl
theorem q847 : Cond.selects RX9 yX9_dueDay yX9_dueDay ∈ GW := gw5 (List.mem_of_getElem? (i := 120) (by decide +kernel)) rfl
theorem q848 : Cond.code yX9_dueDay cX9_dueDay 2 (some FieldType.int) ∈ GW := gw5 (List.mem_of_getElem? (i := 121) (by decide +kernel)) rfl
theorem q849 : Cond.methodLink RX9 167 yX2_dueDayOf ∈ GW := gw5 (List.mem_of_getElem? (i := 122) (by decide +kernel)) rfl
theorem q850 : Cond.methodLink RL 218 yL_rackOf ∈ GW := gw5 (List.mem_of_getElem? (i := 123) (by decide +kernel)) rfl
theorem q851 : Cond.static yL_rackOf ∈ GW := gw5 (List.mem_of_getElem? (i := 124) (by decide +kernel)) rfl
theorem q852 : Cond.codeWith yL_rackOf cL_rackOf 4 (some FieldType.int) [(0, 9, 12, 15), (0, 9, 15, 34)] ∈ GW := gw5 (List.mem_of_getElem? (i := 125) (by decide +kernel)) rfl
theorem q853 : Cond.methodLink RL 66 yX9_rackOf ∈ GW := gw5 (List.mem_of_getElem? (i := 126) (by decide +kernel)) rfl
theorem q854 : Cond.instanceMethod yX9_rackOf ∈ GW := gw5 (List.mem_of_getElem? (i := 127) (by decide +kernel)) rfl
theorem q855 : Cond.selects RX9 yX9_rackOf yX9_rackOf ∈ GW := gw5 (List.mem_of_getElem? (i := 128) (by decide +kernel)) rfl
theorem q856 : Cond.code yX9_rackOf cX9_rackOf 2 (some FieldType.int) ∈ GW := gw5 (List.mem_of_getElem? (i := 129) (by decide +kernel)) rfl
theorem q857 : Cond.methodLink RX9 170 yX9_requireInRack ∈ GW := gw5 (List.mem_of_getElem? (i := 130) (by decide +kernel)) rfl
theorem q858 : Cond.instanceMethod yX9_requireInRack ∈ GW := gw5 (List.mem_of_getElem? (i := 132) (by decide +kernel)) rfl
theorem q859 : Cond.code yX9_requireInRack cX9_requireInRack 2 none ∈ GW := gw5 (List.mem_of_getElem? (i := 133) (by decide +kernel)) rfl
theorem q860 : Cond.methodLink RX9 173 yX2_slotOf ∈ GW := gw5 (List.mem_of_getElem? (i := 135) (by decide +kernel)) rfl
theorem q861 : Cond.methodLink RL 221 yL_placeOf ∈ GW := gw5 (List.mem_of_getElem? (i := 136) (by decide +kernel)) rfl
theorem q862 : Cond.static yL_placeOf ∈ GW := gw5 (List.mem_of_getElem? (i := 137) (by decide +kernel)) rfl
theorem q863 : Cond.codeWith yL_placeOf cL_placeOf 4 (some FieldType.int) [(0, 9, 12, 15), (0, 9, 15, 34)] ∈ GW := gw5 (List.mem_of_getElem? (i := 138) (by decide +kernel)) rfl
theorem q864 : Cond.methodLink RL 69 yX9_placeOf ∈ GW := gw5 (List.mem_of_getElem? (i := 139) (by decide +kernel)) rfl
theorem q865 : Cond.instanceMethod yX9_placeOf ∈ GW := gw5 (List.mem_of_getElem? (i := 140) (by decide +kernel)) rfl
theorem q866 : Cond.selects RX9 yX9_placeOf yX9_placeOf ∈ GW := gw5 (List.mem_of_getElem? (i := 141) (by decide +kernel)) rfl
theorem q867 : Cond.code yX9_placeOf cX9_placeOf 2 (some FieldType.int) ∈ GW := gw5 (List.mem_of_getElem? (i := 142) (by decide +kernel)) rfl
theorem q868 : Cond.methodLink RL 224 yL_hammerAt ∈ GW := gw5 (List.mem_of_getElem? (i := 143) (by decide +kernel)) rfl
theorem q869 : Cond.static yL_hammerAt ∈ GW := gw5 (List.mem_of_getElem? (i := 144) (by decide +kernel)) rfl
theorem q870 : Cond.codeWith yL_hammerAt cL_hammerAt 5 (some FieldType.int) [(0, 10, 13, 15), (0, 10, 17, 34)] ∈ GW := gw5 (List.mem_of_getElem? (i := 145) (by decide +kernel)) rfl
theorem q871 : Cond.methodLink RL 72 yX9_hammerAt ∈ GW := gw5 (List.mem_of_getElem? (i := 146) (by decide +kernel)) rfl
theorem q872 : Cond.instanceMethod yX9_hammerAt ∈ GW := gw5 (List.mem_of_getElem? (i := 147) (by decide +kernel)) rfl
theorem q873 : Cond.selects RX9 yX9_hammerAt yX9_hammerAt ∈ GW := gw5 (List.mem_of_getElem? (i := 148) (by decide +kernel)) rfl
theorem q874 : Cond.code yX9_hammerAt cX9_hammerAt 4 (some FieldType.int) ∈ GW := gw5 (List.mem_of_getElem? (i := 149) (by decide +kernel)) rfl
theorem q875 : Cond.methodLink RX9 176 yX9_isRack ∈ GW := gw5 (List.mem_of_getElem? (i := 150) (by decide +kernel)) rfl
theorem q876 : Cond.methodLink RX9 179 yX9_isPlace ∈ GW := gw5 (List.mem_of_getElem? (i := 151) (by decide +kernel)) rfl
theorem q877 : Cond.methodLink RX9 184 yX2_contentOf ∈ GW := gw5 (List.mem_of_getElem? (i := 153) (by decide +kernel)) rfl
theorem q878 : Cond.methodLink RL 227 yL_bookings ∈ GW := gw5 (List.mem_of_getElem? (i := 155) (by decide +kernel)) rfl
theorem q879 : Cond.static yL_bookings ∈ GW := gw5 (List.mem_of_getElem? (i := 156) (by decide +kernel)) rfl
theorem q880 : Cond.codeWith yL_bookings cL_bookings 4 (some FieldType.int) [(0, 9, 12, 15)] ∈ GW := gw5 (List.mem_of_getElem? (i := 157) (by decide +kernel)) rfl
theorem q881 : Cond.methodLink RL 75 yX9_bookings ∈ GW := gw5 (List.mem_of_getElem? (i := 158) (by decide +kernel)) rfl
theorem q882 : Cond.instanceMethod yX9_bookings ∈ GW := gw5 (List.mem_of_getElem? (i := 159) (by decide +kernel)) rfl
theorem q883 : Cond.selects RX9 yX9_bookings yX9_bookings ∈ GW := gw5 (List.mem_of_getElem? (i := 160) (by decide +kernel)) rfl
theorem q884 : Cond.code yX9_bookings cX9_bookings 2 (some FieldType.int) ∈ GW := gw5 (List.mem_of_getElem? (i := 161) (by decide +kernel)) rfl
theorem q885 : Cond.methodLink RX9 209 yX0_countOf ∈ GW := gw5 (List.mem_of_getElem? (i := 162) (by decide +kernel)) rfl
theorem q886 : Cond.instanceMethod yX0_countOf ∈ GW := gw5 (List.mem_of_getElem? (i := 163) (by decide +kernel)) rfl
theorem q887 : Cond.selects RX0 yX0_countOf yX0_countOf ∈ GW := gw5 (List.mem_of_getElem? (i := 164) (by decide +kernel)) rfl
theorem q888 : Cond.code yX0_countOf cX0_countOf 4 (some FieldType.int) ∈ GW := gw5 (List.mem_of_getElem? (i := 165) (by decide +kernel)) rfl
theorem q889 : Cond.methodLink RL 230 yL_isBooked ∈ GW := gw5 (List.mem_of_getElem? (i := 166) (by decide +kernel)) rfl
theorem q890 : Cond.static yL_isBooked ∈ GW := gw5 (List.mem_of_getElem? (i := 167) (by decide +kernel)) rfl
theorem q891 : Cond.codeWith yL_isBooked cL_isBooked 5 (some FieldType.int) [(0, 17, 20, 15)] ∈ GW := gw5 (List.mem_of_getElem? (i := 168) (by decide +kernel)) rfl
theorem q892 : Cond.methodLink RL 78 yX9_isBooked ∈ GW := gw5 (List.mem_of_getElem? (i := 169) (by decide +kernel)) rfl
theorem q893 : Cond.instanceMethod yX9_isBooked ∈ GW := gw5 (List.mem_of_getElem? (i := 170) (by decide +kernel)) rfl
theorem q894 : Cond.selects RX9 yX9_isBooked yX9_isBooked ∈ GW := gw5 (List.mem_of_getElem? (i := 171) (by decide +kernel)) rfl
theorem q895 : Cond.code yX9_isBooked cX9_isBooked 3 (some FieldType.boolean) ∈ GW := gw5 (List.mem_of_getElem? (i := 172) (by decide +kernel)) rfl
theorem q896 : Cond.methodLink RX9 214 yX0_meets ∈ GW := gw5 (List.mem_of_getElem? (i := 173) (by decide +kernel)) rfl
theorem q897 : Cond.methodLink RL 237 yL_requestAt ∈ GW := gw5 (List.mem_of_getElem? (i := 174) (by decide +kernel)) rfl
theorem q898 : Cond.static yL_requestAt ∈ GW := gw5 (List.mem_of_getElem? (i := 175) (by decide +kernel)) rfl
theorem q899 : Cond.codeWith yL_requestAt cL_requestAt 4 (some FieldType.int) [(0, 9, 12, 34)] ∈ GW := gw5 (List.mem_of_getElem? (i := 176) (by decide +kernel)) rfl
theorem q900 : Cond.methodLink RL 82 yX9_requestAt ∈ GW := gw5 (List.mem_of_getElem? (i := 177) (by decide +kernel)) rfl
theorem q901 : Cond.instanceMethod yX9_requestAt ∈ GW := gw5 (List.mem_of_getElem? (i := 178) (by decide +kernel)) rfl
theorem q902 : Cond.selects RX9 yX9_requestAt yX9_requestAt ∈ GW := gw5 (List.mem_of_getElem? (i := 179) (by decide +kernel)) rfl
theorem q903 : Cond.code yX9_requestAt cX9_requestAt 2 (some FieldType.int) ∈ GW := gw5 (List.mem_of_getElem? (i := 180) (by decide +kernel)) rfl
theorem q904 : Cond.methodLink RX9 225 yX5_has ∈ GW := gw5 (List.mem_of_getElem? (i := 181) (by decide +kernel)) rfl
theorem q905 : Cond.methodLink RX9 230 yX5_idAt ∈ GW := gw5 (List.mem_of_getElem? (i := 183) (by decide +kernel)) rfl
theorem q906 : Cond.methodLink RL 240 yL_fits ∈ GW := gw5 (List.mem_of_getElem? (i := 184) (by decide +kernel)) rfl
theorem q907 : Cond.static yL_fits ∈ GW := gw5 (List.mem_of_getElem? (i := 185) (by decide +kernel)) rfl
theorem q908 : Cond.codeWith yL_fits cL_fits 5 (some FieldType.int) [(0, 17, 20, 34), (0, 17, 24, 15)] ∈ GW := gw5 (List.mem_of_getElem? (i := 186) (by decide +kernel)) rfl
theorem q909 : Cond.methodLink RL 85 yX9_fits ∈ GW := gw5 (List.mem_of_getElem? (i := 187) (by decide +kernel)) rfl
theorem q910 : Cond.instanceMethod yX9_fits ∈ GW := gw5 (List.mem_of_getElem? (i := 188) (by decide +kernel)) rfl
theorem q911 : Cond.selects RX9 yX9_fits yX9_fits ∈ GW := gw5 (List.mem_of_getElem? (i := 189) (by decide +kernel)) rfl
theorem q912 : Cond.code yX9_fits cX9_fits 4 (some FieldType.boolean) ∈ GW := gw5 (List.mem_of_getElem? (i := 190) (by decide +kernel)) rfl
theorem q913 : Cond.methodLink RX9 233 yX9_requiredPosition ∈ GW := gw5 (List.mem_of_getElem? (i := 191) (by decide +kernel)) rfl
theorem q914 : Cond.instanceMethod yX9_requiredPosition ∈ GW := gw5 (List.mem_of_getElem? (i := 193) (by decide +kernel)) rfl
theorem q915 : Cond.code yX9_requiredPosition cX9_requiredPosition 3 (some FieldType.int) ∈ GW := gw5 (List.mem_of_getElem? (i := 194) (by decide +kernel)) rfl
theorem q916 : Cond.methodLink RX9 420 yX5_positionOf ∈ GW := gw5 (List.mem_of_getElem? (i := 195) (by decide +kernel)) rfl
theorem q917 : Cond.methodLink RX9 236 yX8_suits ∈ GW := gw5 (List.mem_of_getElem? (i := 196) (by decide +kernel)) rfl
theorem q918 : Cond.methodLink RL 243 yL_bestHammer ∈ GW := gw5 (List.mem_of_getElem? (i := 197) (by decide +kernel)) rfl
theorem q919 : Cond.static yL_bestHammer ∈ GW := gw5 (List.mem_of_getElem? (i := 198) (by decide +kernel)) rfl
theorem q920 : Cond.codeWith yL_bestHammer cL_bestHammer 4 (some FieldType.int) [(0, 9, 12, 34)] ∈ GW := gw5 (List.mem_of_getElem? (i := 199) (by decide +kernel)) rfl
theorem q921 : Cond.methodLink RL 88 yX9_bestHammer ∈ GW := gw5 (List.mem_of_getElem? (i := 200) (by decide +kernel)) rfl
theorem q922 : Cond.instanceMethod yX9_bestHammer ∈ GW := gw5 (List.mem_of_getElem? (i := 201) (by decide +kernel)) rfl
theorem q923 : Cond.selects RX9 yX9_bestHammer yX9_bestHammer ∈ GW := gw5 (List.mem_of_getElem? (i := 202) (by decide +kernel)) rfl
theorem q924 : Cond.code yX9_bestHammer cX9_bestHammer 3 (some FieldType.int) ∈ GW := gw5 (List.mem_of_getElem? (i := 203) (by decide +kernel)) rfl
theorem q925 : Cond.methodLink RX9 240 yX8_bestFor ∈ GW := gw5 (List.mem_of_getElem? (i := 204) (by decide +kernel)) rfl
theorem q926 : Cond.methodLink RL 254 yL_loudness ∈ GW := gw5 (List.mem_of_getElem? (i := 206) (by decide +kernel)) rfl
theorem q927 : Cond.static yL_loudness ∈ GW := gw5 (List.mem_of_getElem? (i := 207) (by decide +kernel)) rfl
theorem q928 : Cond.codeWith yL_loudness cL_loudness 5 (some FieldType.int) [(0, 10, 13, 15)] ∈ GW := gw5 (List.mem_of_getElem? (i := 208) (by decide +kernel)) rfl
theorem q929 : Cond.methodLink RL 91 yX9_loudness ∈ GW := gw5 (List.mem_of_getElem? (i := 209) (by decide +kernel)) rfl
theorem q930 : Cond.instanceMethod yX9_loudness ∈ GW := gw5 (List.mem_of_getElem? (i := 210) (by decide +kernel)) rfl
theorem q931 : Cond.selects RX9 yX9_loudness yX9_loudness ∈ GW := gw5 (List.mem_of_getElem? (i := 211) (by decide +kernel)) rfl
theorem q932 : Cond.code yX9_loudness cX9_loudness 3 (some FieldType.int) ∈ GW := gw5 (List.mem_of_getElem? (i := 212) (by decide +kernel)) rfl
theorem q933 : Cond.methodLink RX9 254 yX9_requireRack ∈ GW := gw5 (List.mem_of_getElem? (i := 213) (by decide +kernel)) rfl
theorem q934 : Cond.instanceMethod yX9_requireRack ∈ GW := gw5 (List.mem_of_getElem? (i := 215) (by decide +kernel)) rfl
theorem q935 : Cond.code yX9_requireRack cX9_requireRack 2 none ∈ GW := gw5 (List.mem_of_getElem? (i := 216) (by decide +kernel)) rfl
theorem q936 : Cond.methodLink RX9 257 yX1_loudnessOf ∈ GW := gw5 (List.mem_of_getElem? (i := 218) (by decide +kernel)) rfl
theorem q937 : Cond.static yX1_loudnessOf ∈ GW := gw5 (List.mem_of_getElem? (i := 219) (by decide +kernel)) rfl
theorem q938 : Cond.code yX1_loudnessOf cX1_loudnessOf 6 (some FieldType.int) ∈ GW := gw5 (List.mem_of_getElem? (i := 220) (by decide +kernel)) rfl
theorem q939 : Cond.methodLink RX1 25 yX2_contentOf ∈ GW := gw5 (List.mem_of_getElem? (i := 221) (by decide +kernel)) rfl
theorem q940 : Cond.methodLink RL 257 yL_loudestPitch ∈ GW := gw5 (List.mem_of_getElem? (i := 222) (by decide +kernel)) rfl
theorem q941 : Cond.static yL_loudestPitch ∈ GW := gw5 (List.mem_of_getElem? (i := 223) (by decide +kernel)) rfl
theorem q942 : Cond.codeWith yL_loudestPitch cL_loudestPitch 4 (some FieldType.int) [(0, 9, 12, 15), (0, 9, 15, 34)] ∈ GW := gw5 (List.mem_of_getElem? (i := 224) (by decide +kernel)) rfl
theorem q943 : Cond.methodLink RL 94 yX9_loudestPitch ∈ GW := gw5 (List.mem_of_getElem? (i := 225) (by decide +kernel)) rfl
theorem q944 : Cond.instanceMethod yX9_loudestPitch ∈ GW := gw5 (List.mem_of_getElem? (i := 226) (by decide +kernel)) rfl
theorem q945 : Cond.selects RX9 yX9_loudestPitch yX9_loudestPitch ∈ GW := gw5 (List.mem_of_getElem? (i := 227) (by decide +kernel)) rfl
theorem q946 : Cond.code yX9_loudestPitch cX9_loudestPitch 2 (some FieldType.int) ∈ GW := gw5 (List.mem_of_getElem? (i := 228) (by decide +kernel)) rfl
theorem q947 : Cond.methodLink RX9 261 yX2_countIn ∈ GW := gw5 (List.mem_of_getElem? (i := 229) (by decide +kernel)) rfl
theorem q948 : Cond.instanceMethod yX2_countIn ∈ GW := gw5 (List.mem_of_getElem? (i := 230) (by decide +kernel)) rfl
theorem q949 : Cond.selects RX2 yX2_countIn yX2_countIn ∈ GW := gw5 (List.mem_of_getElem? (i := 231) (by decide +kernel)) rfl
theorem q950 : Cond.code yX2_countIn cX2_countIn 4 (some FieldType.int) ∈ GW := gw5 (List.mem_of_getElem? (i := 232) (by decide +kernel)) rfl
theorem q951 : Cond.methodLink RX9 266 yX1_loudestOf ∈ GW := gw5 (List.mem_of_getElem? (i := 234) (by decide +kernel)) rfl
theorem q952 : Cond.static yX1_loudestOf ∈ GW := gw5 (List.mem_of_getElem? (i := 235) (by decide +kernel)) rfl
theorem q953 : Cond.code yX1_loudestOf cX1_loudestOf 6 (some FieldType.int) ∈ GW := gw5 (List.mem_of_getElem? (i := 236) (by decide +kernel)) rfl
theorem q954 : Cond.methodLink RX1 38 yX1_loudnessOf ∈ GW := gw5 (List.mem_of_getElem? (i := 237) (by decide +kernel)) rfl
theorem q955 : Cond.methodLink RL 260 yL_consonance ∈ GW := gw5 (List.mem_of_getElem? (i := 238) (by decide +kernel)) rfl
theorem q956 : Cond.static yL_consonance ∈ GW := gw5 (List.mem_of_getElem? (i := 239) (by decide +kernel)) rfl
theorem q957 : Cond.codeWith yL_consonance cL_consonance 5 (some FieldType.int) [(0, 10, 13, 15)] ∈ GW := gw6 (List.mem_of_getElem? (i := 0) (by decide +kernel)) rfl
theorem q958 : Cond.methodLink RL 97 yX9_consonance ∈ GW := gw6 (List.mem_of_getElem? (i := 1) (by decide +kernel)) rfl
theorem q959 : Cond.instanceMethod yX9_consonance ∈ GW := gw6 (List.mem_of_getElem? (i := 2) (by decide +kernel)) rfl
theorem q960 : Cond.selects RX9 yX9_consonance yX9_consonance ∈ GW := gw6 (List.mem_of_getElem? (i := 3) (by decide +kernel)) rfl
theorem q961 : Cond.code yX9_consonance cX9_consonance 3 (some FieldType.int) ∈ GW := gw6 (List.mem_of_getElem? (i := 4) (by decide +kernel)) rfl
theorem q962 : Cond.methodLink RX9 270 yX1_between ∈ GW := gw6 (List.mem_of_getElem? (i := 5) (by decide +kernel)) rfl
theorem q963 : Cond.methodLink RL 263 yL_bestChord ∈ GW := gw6 (List.mem_of_getElem? (i := 6) (by decide +kernel)) rfl
theorem q964 : Cond.static yL_bestChord ∈ GW := gw6 (List.mem_of_getElem? (i := 7) (by decide +kernel)) rfl
theorem q965 : Cond.codeWith yL_bestChord cL_bestChord 4 (some FieldType.int) [(0, 9, 12, 13), (0, 9, 15, 34)] ∈ GW := gw6 (List.mem_of_getElem? (i := 8) (by decide +kernel)) rfl
theorem q966 : Cond.methodLink RL 100 yX9_bestChord ∈ GW := gw6 (List.mem_of_getElem? (i := 9) (by decide +kernel)) rfl
theorem q967 : Cond.instanceMethod yX9_bestChord ∈ GW := gw6 (List.mem_of_getElem? (i := 10) (by decide +kernel)) rfl
theorem q968 : Cond.selects RX9 yX9_bestChord yX9_bestChord ∈ GW := gw6 (List.mem_of_getElem? (i := 11) (by decide +kernel)) rfl
theorem q969 : Cond.code yX9_bestChord cX9_bestChord 2 (some FieldType.int) ∈ GW := gw6 (List.mem_of_getElem? (i := 12) (by decide +kernel)) rfl
theorem q970 : Cond.methodLink RX9 273 yX9_requireChord ∈ GW := gw6 (List.mem_of_getElem? (i := 13) (by decide +kernel)) rfl
theorem q971 : Cond.instanceMethod yX9_requireChord ∈ GW := gw6 (List.mem_of_getElem? (i := 15) (by decide +kernel)) rfl
theorem q972 : Cond.code yX9_requireChord cX9_requireChord 2 none ∈ GW := gw6 (List.mem_of_getElem? (i := 16) (by decide +kernel)) rfl
theorem q973 : Cond.methodLink RL 266 yL_bestChordBySets ∈ GW := gw6 (List.mem_of_getElem? (i := 19) (by decide +kernel)) rfl
theorem q974 : Cond.static yL_bestChordBySets ∈ GW := gw6 (List.mem_of_getElem? (i := 20) (by decide +kernel)) rfl
theorem q975 : Cond.codeWith yL_bestChordBySets cL_bestChordBySets 4 (some FieldType.int) [(0, 9, 12, 13), (0, 9, 15, 34)] ∈ GW := gw6 (List.mem_of_getElem? (i := 21) (by decide +kernel)) rfl
theorem q976 : Cond.methodLink RL 103 yX9_bestChordBySets ∈ GW := gw6 (List.mem_of_getElem? (i := 22) (by decide +kernel)) rfl
theorem q977 : Cond.instanceMethod yX9_bestChordBySets ∈ GW := gw6 (List.mem_of_getElem? (i := 23) (by decide +kernel)) rfl
theorem q978 : Cond.selects RX9 yX9_bestChordBySets yX9_bestChordBySets ∈ GW := gw6 (List.mem_of_getElem? (i := 24) (by decide +kernel)) rfl
theorem q979 : Cond.code yX9_bestChordBySets cX9_bestChordBySets 2 (some FieldType.int) ∈ GW := gw6 (List.mem_of_getElem? (i := 25) (by decide +kernel)) rfl
theorem q980 : Cond.methodLink RL 269 yL_swapsToSort ∈ GW := gw6 (List.mem_of_getElem? (i := 26) (by decide +kernel)) rfl
theorem q981 : Cond.static yL_swapsToSort ∈ GW := gw6 (List.mem_of_getElem? (i := 27) (by decide +kernel)) rfl
theorem q982 : Cond.codeWith yL_swapsToSort cL_swapsToSort 4 (some FieldType.int) [(0, 9, 12, 15)] ∈ GW := gw6 (List.mem_of_getElem? (i := 28) (by decide +kernel)) rfl
theorem q983 : Cond.methodLink RL 106 yX9_swapsToSort ∈ GW := gw6 (List.mem_of_getElem? (i := 29) (by decide +kernel)) rfl
theorem q984 : Cond.instanceMethod yX9_swapsToSort ∈ GW := gw6 (List.mem_of_getElem? (i := 30) (by decide +kernel)) rfl
theorem q985 : Cond.selects RX9 yX9_swapsToSort yX9_swapsToSort ∈ GW := gw6 (List.mem_of_getElem? (i := 31) (by decide +kernel)) rfl
theorem q986 : Cond.code yX9_swapsToSort cX9_swapsToSort 2 (some FieldType.int) ∈ GW := gw6 (List.mem_of_getElem? (i := 32) (by decide +kernel)) rfl
theorem q987 : Cond.methodLink RL 272 yL_swapsToSortByCycles ∈ GW := gw6 (List.mem_of_getElem? (i := 33) (by decide +kernel)) rfl
theorem q988 : Cond.static yL_swapsToSortByCycles ∈ GW := gw6 (List.mem_of_getElem? (i := 34) (by decide +kernel)) rfl
theorem q989 : Cond.codeWith yL_swapsToSortByCycles cL_swapsToSortByCycles 4 (some FieldType.int) [(0, 9, 12, 15)] ∈ GW := gw6 (List.mem_of_getElem? (i := 35) (by decide +kernel)) rfl
theorem q990 : Cond.methodLink RL 109 yX9_swapsToSortByCycles ∈ GW := gw6 (List.mem_of_getElem? (i := 36) (by decide +kernel)) rfl
theorem q991 : Cond.instanceMethod yX9_swapsToSortByCycles ∈ GW := gw6 (List.mem_of_getElem? (i := 37) (by decide +kernel)) rfl
theorem q992 : Cond.selects RX9 yX9_swapsToSortByCycles yX9_swapsToSortByCycles ∈ GW := gw6 (List.mem_of_getElem? (i := 38) (by decide +kernel)) rfl
theorem q993 : Cond.code yX9_swapsToSortByCycles cX9_swapsToSortByCycles 2 (some FieldType.int) ∈ GW := gw6 (List.mem_of_getElem? (i := 39) (by decide +kernel)) rfl
theorem q994 : Cond.methodLink RL 275 yL_hammerByWear ∈ GW := gw6 (List.mem_of_getElem? (i := 40) (by decide +kernel)) rfl
theorem q995 : Cond.static yL_hammerByWear ∈ GW := gw6 (List.mem_of_getElem? (i := 41) (by decide +kernel)) rfl
theorem q996 : Cond.codeWith yL_hammerByWear cL_hammerByWear 4 (some FieldType.int) [(0, 9, 12, 34)] ∈ GW := gw6 (List.mem_of_getElem? (i := 42) (by decide +kernel)) rfl
theorem q997 : Cond.methodLink RL 112 yX9_hammerByWear ∈ GW := gw6 (List.mem_of_getElem? (i := 43) (by decide +kernel)) rfl
theorem q998 : Cond.instanceMethod yX9_hammerByWear ∈ GW := gw6 (List.mem_of_getElem? (i := 44) (by decide +kernel)) rfl
theorem q999 : Cond.selects RX9 yX9_hammerByWear yX9_hammerByWear ∈ GW := gw6 (List.mem_of_getElem? (i := 45) (by decide +kernel)) rfl
theorem q1000 : Cond.code yX9_hammerByWear cX9_hammerByWear 3 (some FieldType.int) ∈ GW := gw6 (List.mem_of_getElem? (i := 46) (by decide +kernel)) rfl
theorem q1001 : Cond.methodLink RX9 189 yX2_byWear ∈ GW := gw6 (List.mem_of_getElem? (i := 47) (by decide +kernel)) rfl
theorem q1002 : Cond.instanceMethod yX2_byWear ∈ GW := gw6 (List.mem_of_getElem? (i := 48) (by decide +kernel)) rfl
theorem q1003 : Cond.selects RX2 yX2_byWear yX2_byWear ∈ GW := gw6 (List.mem_of_getElem? (i := 49) (by decide +kernel)) rfl
theorem q1004 : Cond.code yX2_byWear cX2_byWear 5 (some FieldType.int) ∈ GW := gw6 (List.mem_of_getElem? (i := 50) (by decide +kernel)) rfl
theorem q1005 : Cond.methodLink RX2 79 yX2_moreWorn ∈ GW := gw6 (List.mem_of_getElem? (i := 51) (by decide +kernel)) rfl
theorem q1006 : Cond.instanceMethod yX2_moreWorn ∈ GW := gw6 (List.mem_of_getElem? (i := 53) (by decide +kernel)) rfl
theorem q1007 : Cond.code yX2_moreWorn cX2_moreWorn 4 (some FieldType.boolean) ∈ GW := gw6 (List.mem_of_getElem? (i := 54) (by decide +kernel)) rfl
theorem q1008 : Cond.methodLink RX2 60 yX2_wearOf ∈ GW := gw6 (List.mem_of_getElem? (i := 55) (by decide +kernel)) rfl
theorem q1009 : Cond.methodLink RX2 75 yX2_sortsBefore ∈ GW := gw6 (List.mem_of_getElem? (i := 56) (by decide +kernel)) rfl
theorem q1010 : Cond.methodLink RL 298 yL_meanWear ∈ GW := gw6 (List.mem_of_getElem? (i := 58) (by decide +kernel)) rfl
theorem q1011 : Cond.static yL_meanWear ∈ GW := gw6 (List.mem_of_getElem? (i := 59) (by decide +kernel)) rfl
theorem q1012 : Cond.codeWith yL_meanWear cL_meanWear 3 (some FieldType.int) [(0, 7, 10, 119)] ∈ GW := gw6 (List.mem_of_getElem? (i := 60) (by decide +kernel)) rfl
theorem q1013 : Cond.classLink RL 119 "java/lang/ArithmeticException" ∈ GW := gw6 (List.mem_of_getElem? (i := 61) (by decide +kernel)) rfl
theorem q1014 : Cond.instantiable "java/lang/ArithmeticException" 6 ∈ GW := gw6 (List.mem_of_getElem? (i := 62) (by decide +kernel)) rfl
theorem q1015 : Cond.instanceMethod ⟨"java/lang/ArithmeticException", "<init>", "(Ljava/lang/String;)V"⟩ ∈ GW := gw6 (List.mem_of_getElem? (i := 63) (by decide +kernel)) rfl
theorem q1016 : Cond.code ⟨"java/lang/ArithmeticException", "<init>", "(Ljava/lang/String;)V"⟩ prog_16_method_2_code 2 none ∈ GW := gw6 (List.mem_of_getElem? (i := 64) (by decide +kernel)) rfl
theorem q1017 : Cond.methodLink "java/lang/ArithmeticException" 7 ⟨"java/lang/RuntimeException", "<init>", "(Ljava/lang/String;)V"⟩ ∈ GW := gw6 (List.mem_of_getElem? (i := 65) (by decide +kernel)) rfl
theorem q1019 : Cond.selects "java/lang/ArithmeticException" ⟨"java/lang/Throwable", "fillInStackTrace", "(I)Ljava/lang/Throwable;"⟩ ⟨"java/lang/Throwable", "fillInStackTrace", "(I)Ljava/lang/Throwable;"⟩ ∈ GW := gw6 (List.mem_of_getElem? (i := 74) (by decide +kernel)) rfl
theorem q1020 : Cond.methodLink RL 115 yX9_meanWear ∈ GW := gw6 (List.mem_of_getElem? (i := 75) (by decide +kernel)) rfl
theorem q1021 : Cond.instanceMethod yX9_meanWear ∈ GW := gw6 (List.mem_of_getElem? (i := 76) (by decide +kernel)) rfl
theorem q1022 : Cond.selects RX9 yX9_meanWear yX9_meanWear ∈ GW := gw6 (List.mem_of_getElem? (i := 77) (by decide +kernel)) rfl
theorem q1023 : Cond.code yX9_meanWear cX9_meanWear 2 (some FieldType.double) ∈ GW := gw6 (List.mem_of_getElem? (i := 78) (by decide +kernel)) rfl
theorem q1024 : Cond.classLink RX9 194 "java/lang/ArithmeticException" ∈ GW := gw6 (List.mem_of_getElem? (i := 79) (by decide +kernel)) rfl
theorem q1025 : Cond.methodLink RX9 198 ⟨"java/lang/ArithmeticException", "<init>", "(Ljava/lang/String;)V"⟩ ∈ GW := gw6 (List.mem_of_getElem? (i := 81) (by decide +kernel)) rfl
theorem q1026 : Cond.methodLink RX9 199 yX2_wearSum ∈ GW := gw6 (List.mem_of_getElem? (i := 82) (by decide +kernel)) rfl
theorem q1027 : Cond.instanceMethod yX2_wearSum ∈ GW := gw6 (List.mem_of_getElem? (i := 83) (by decide +kernel)) rfl
theorem q1028 : Cond.selects RX2 yX2_wearSum yX2_wearSum ∈ GW := gw6 (List.mem_of_getElem? (i := 84) (by decide +kernel)) rfl
theorem q1029 : Cond.code yX2_wearSum cX2_wearSum 3 (some FieldType.int) ∈ GW := gw6 (List.mem_of_getElem? (i := 85) (by decide +kernel)) rfl
theorem q1030 : Cond.methodLink RL 302 yL_lentShare ∈ GW := gw6 (List.mem_of_getElem? (i := 86) (by decide +kernel)) rfl
theorem q1031 : Cond.static yL_lentShare ∈ GW := gw6 (List.mem_of_getElem? (i := 87) (by decide +kernel)) rfl
theorem q1032 : Cond.codeWith yL_lentShare cL_lentShare 3 (some FieldType.int) [(0, 8, 11, 119)] ∈ GW := gw6 (List.mem_of_getElem? (i := 88) (by decide +kernel)) rfl
theorem q1033 : Cond.methodLink RL 121 yX9_lentShare ∈ GW := gw6 (List.mem_of_getElem? (i := 89) (by decide +kernel)) rfl
theorem q1034 : Cond.instanceMethod yX9_lentShare ∈ GW := gw6 (List.mem_of_getElem? (i := 90) (by decide +kernel)) rfl
theorem q1035 : Cond.selects RX9 yX9_lentShare yX9_lentShare ∈ GW := gw6 (List.mem_of_getElem? (i := 91) (by decide +kernel)) rfl
theorem q1036 : Cond.code yX9_lentShare cX9_lentShare 2 (some FieldType.float) ∈ GW := gw6 (List.mem_of_getElem? (i := 92) (by decide +kernel)) rfl
theorem q1037 : Cond.methodLink RX9 202 yX2_awayCount ∈ GW := gw6 (List.mem_of_getElem? (i := 93) (by decide +kernel)) rfl
theorem q1038 : Cond.instanceMethod yX2_awayCount ∈ GW := gw6 (List.mem_of_getElem? (i := 94) (by decide +kernel)) rfl
theorem q1039 : Cond.selects RX2 yX2_awayCount yX2_awayCount ∈ GW := gw6 (List.mem_of_getElem? (i := 95) (by decide +kernel)) rfl
theorem q1040 : Cond.code yX2_awayCount cX2_awayCount 3 (some FieldType.int) ∈ GW := gw6 (List.mem_of_getElem? (i := 96) (by decide +kernel)) rfl
theorem q1041 : Cond.methodLink RX2 64 yX2_isAway ∈ GW := gw6 (List.mem_of_getElem? (i := 97) (by decide +kernel)) rfl
theorem q1042 : Cond.methodLink RL 310 yL_renderRack ∈ GW := gw6 (List.mem_of_getElem? (i := 98) (by decide +kernel)) rfl
theorem q1043 : Cond.static yL_renderRack ∈ GW := gw6 (List.mem_of_getElem? (i := 99) (by decide +kernel)) rfl
theorem q1044 : Cond.codeWith yL_renderRack cL_renderRack 4 (some FieldType.int) [(0, 9, 12, 15)] ∈ GW := gw6 (List.mem_of_getElem? (i := 100) (by decide +kernel)) rfl
theorem q1045 : Cond.methodLink RL 125 yX9_renderRack ∈ GW := gw6 (List.mem_of_getElem? (i := 101) (by decide +kernel)) rfl
theorem q1046 : Cond.instanceMethod yX9_renderRack ∈ GW := gw6 (List.mem_of_getElem? (i := 102) (by decide +kernel)) rfl
theorem q1047 : Cond.selects RX9 yX9_renderRack yX9_renderRack ∈ GW := gw6 (List.mem_of_getElem? (i := 103) (by decide +kernel)) rfl
theorem q1048 : Cond.code yX9_renderRack cX9_renderRack 4 (some FieldType.int) ∈ GW := gw6 (List.mem_of_getElem? (i := 104) (by decide +kernel)) rfl
theorem q1049 : Cond.methodLink RX9 341 yJ4_setLength_d00df ∈ GW := gw6 (List.mem_of_getElem? (i := 105) (by decide +kernel)) rfl
theorem q1050 : Cond.instanceMethod yJ4_setLength_d00df ∈ GW := gw6 (List.mem_of_getElem? (i := 106) (by decide +kernel)) rfl
theorem q1051 : Cond.selects RJ4 yJ4_setLength_d00df yJ4_setLength_d00df ∈ GW := gw6 (List.mem_of_getElem? (i := 107) (by decide +kernel)) rfl
theorem q1052 : Cond.code yJ4_setLength_d00df cJ4_setLength_d00df 2 none ∈ GW := gw6 (List.mem_of_getElem? (i := 108) (by decide +kernel)) rfl
theorem q1053 : Cond.methodLink RJ4 333 yJ5_setLength_d00df ∈ GW := gw6 (List.mem_of_getElem? (i := 109) (by decide +kernel)) rfl
theorem q1054 : Cond.instanceMethod yJ5_setLength_d00df ∈ GW := gw6 (List.mem_of_getElem? (i := 110) (by decide +kernel)) rfl
theorem q1055 : Cond.code yJ5_setLength_d00df cJ5_setLength_d00df 2 none ∈ GW := gw6 (List.mem_of_getElem? (i := 111) (by decide +kernel)) rfl
theorem q1056 : Cond.classLink RJ5 129 RJx7c733 ∈ GW := gw6 (List.mem_of_getElem? (i := 112) (by decide +kernel)) rfl
theorem q1057 : Cond.instantiable RJx7c733 6 ∈ GW := gw6 (List.mem_of_getElem? (i := 113) (by decide +kernel)) rfl
theorem q1058 : Cond.methodLink RJ5 131 yJx7c733_init_d00df ∈ GW := gw6 (List.mem_of_getElem? (i := 114) (by decide +kernel)) rfl
theorem q1059 : Cond.instanceMethod yJx7c733_init_d00df ∈ GW := gw6 (List.mem_of_getElem? (i := 115) (by decide +kernel)) rfl
theorem q1060 : Cond.code yJx7c733_init_d00df cJx7c733_init_d00df 2 none ∈ GW := gw6 (List.mem_of_getElem? (i := 116) (by decide +kernel)) rfl
theorem q1061 : Cond.classLink RJx7c733 10 RJ4 ∈ GW := gw6 (List.mem_of_getElem? (i := 117) (by decide +kernel)) rfl
theorem q1062 : Cond.methodLink RJx7c733 12 yJ4_init_da8c8 ∈ GW := gw6 (List.mem_of_getElem? (i := 118) (by decide +kernel)) rfl
theorem q1063 : Cond.methodLink RJx7c733 15 yJ4_append_15ec4 ∈ GW := gw6 (List.mem_of_getElem? (i := 120) (by decide +kernel)) rfl
theorem q1064 : Cond.instanceMethod yJ4_append_15ec4 ∈ GW := gw6 (List.mem_of_getElem? (i := 121) (by decide +kernel)) rfl
theorem q1065 : Cond.selects RJ4 yJ4_append_15ec4 yJ4_append_15ec4 ∈ GW := gw6 (List.mem_of_getElem? (i := 122) (by decide +kernel)) rfl
theorem q1066 : Cond.code yJ4_append_15ec4 cJ4_append_15ec4 2 (some (FieldType.object "java/lang/StringBuilder")) ∈ GW := gw6 (List.mem_of_getElem? (i := 123) (by decide +kernel)) rfl
theorem q1067 : Cond.methodLink RJ4 29 yJ5_append_cf1ce ∈ GW := gw6 (List.mem_of_getElem? (i := 124) (by decide +kernel)) rfl
theorem q1068 : Cond.instanceMethod yJ5_append_cf1ce ∈ GW := gw6 (List.mem_of_getElem? (i := 125) (by decide +kernel)) rfl
theorem q1069 : Cond.code yJ5_append_cf1ce cJ5_append_cf1ce 3 (some (FieldType.object "java/lang/AbstractStringBuilder")) ∈ GW := gw6 (List.mem_of_getElem? (i := 126) (by decide +kernel)) rfl
theorem q1070 : Cond.methodLink RJ5 204 yJ5_appendNull_278bc ∈ GW := gw6 (List.mem_of_getElem? (i := 127) (by decide +kernel)) rfl
theorem q1071 : Cond.instanceMethod yJ5_appendNull_278bc ∈ GW := gw6 (List.mem_of_getElem? (i := 129) (by decide +kernel)) rfl
theorem q1072 : Cond.code yJ5_appendNull_278bc cJ5_appendNull_278bc 3 (some (FieldType.object "java/lang/AbstractStringBuilder")) ∈ GW := gw6 (List.mem_of_getElem? (i := 130) (by decide +kernel)) rfl
theorem q1073 : Cond.methodLink RJ5 100 yJ5_ensureCapacityInternal_d00df ∈ GW := gw6 (List.mem_of_getElem? (i := 131) (by decide +kernel)) rfl
theorem q1074 : Cond.instanceMethod yJ5_ensureCapacityInternal_d00df ∈ GW := gw6 (List.mem_of_getElem? (i := 133) (by decide +kernel)) rfl
theorem q1075 : Cond.code yJ5_ensureCapacityInternal_d00df cJ5_ensureCapacityInternal_d00df 3 none ∈ GW := gw6 (List.mem_of_getElem? (i := 134) (by decide +kernel)) rfl
theorem q1076 : Cond.methodLink RJ5 104 yJ5_newCapacity_0f7a4 ∈ GW := gw6 (List.mem_of_getElem? (i := 135) (by decide +kernel)) rfl
theorem q1077 : Cond.instanceMethod yJ5_newCapacity_0f7a4 ∈ GW := gw6 (List.mem_of_getElem? (i := 137) (by decide +kernel)) rfl
theorem q1078 : Cond.code yJ5_newCapacity_0f7a4 cJ5_newCapacity_0f7a4 6 (some FieldType.int) ∈ GW := gw6 (List.mem_of_getElem? (i := 138) (by decide +kernel)) rfl
theorem q1079 : Cond.methodLink RJ5 114 yJ8_newLength_cabcc ∈ GW := gw6 (List.mem_of_getElem? (i := 139) (by decide +kernel)) rfl
theorem q1080 : Cond.static yJ8_newLength_cabcc ∈ GW := gw6 (List.mem_of_getElem? (i := 140) (by decide +kernel)) rfl
theorem q1081 : Cond.code yJ8_newLength_cabcc cJ8_newLength_cabcc 4 (some FieldType.int) ∈ GW := gw6 (List.mem_of_getElem? (i := 141) (by decide +kernel)) rfl
theorem q1082 : Cond.methodLink RJ8 194 yJ9_max_7cf53 ∈ GW := gw6 (List.mem_of_getElem? (i := 142) (by decide +kernel)) rfl
theorem q1083 : Cond.constant RJ8 200 (2147483639) ∈ GW := gw6 (List.mem_of_getElem? (i := 143) (by decide +kernel)) rfl
theorem q1084 : Cond.methodLink RJ8 201 yJ8_hugeLength_7cf53 ∈ GW := gw6 (List.mem_of_getElem? (i := 144) (by decide +kernel)) rfl
theorem q1085 : Cond.static yJ8_hugeLength_7cf53 ∈ GW := gw6 (List.mem_of_getElem? (i := 145) (by decide +kernel)) rfl
theorem q1086 : Cond.code yJ8_hugeLength_7cf53 cJ8_hugeLength_7cf53 3 (some FieldType.int) ∈ GW := gw6 (List.mem_of_getElem? (i := 146) (by decide +kernel)) rfl
theorem q1087 : Cond.constant RJ5 39 (2147483647) ∈ GW := gw6 (List.mem_of_getElem? (i := 147) (by decide +kernel)) rfl
theorem q1088 : Cond.methodLink RJ5 108 yJ7_copyOf_9075b ∈ GW := gw6 (List.mem_of_getElem? (i := 148) (by decide +kernel)) rfl
theorem q1089 : Cond.static yJ7_copyOf_9075b ∈ GW := gw6 (List.mem_of_getElem? (i := 149) (by decide +kernel)) rfl
theorem q1090 : Cond.code yJ7_copyOf_9075b cJ7_copyOf_9075b 3 (some (FieldType.array FieldType.byte)) ∈ GW := gw6 (List.mem_of_getElem? (i := 150) (by decide +kernel)) rfl
theorem q1091 : Cond.methodLink RJ7 310 ⟨"[B", "clone", "()Ljava/lang/Object;"⟩ ∈ GW := gw6 (List.mem_of_getElem? (i := 151) (by decide +kernel)) rfl
theorem q1092 : Cond.native ⟨"java/lang/Object", "clone", "()Ljava/lang/Object;"⟩ ∈ GW := gw6 (List.mem_of_getElem? (i := 153) (by decide +kernel)) rfl
theorem q1093 : Cond.instanceMethod ⟨"java/lang/Object", "clone", "()Ljava/lang/Object;"⟩ ∈ GW := gw6 (List.mem_of_getElem? (i := 154) (by decide +kernel)) rfl
theorem q1094 : Cond.selects "[B" ⟨"[B", "clone", "()Ljava/lang/Object;"⟩ ⟨"java/lang/Object", "clone", "()Ljava/lang/Object;"⟩ ∈ GW := gw6 (List.mem_of_getElem? (i := 155) (by decide +kernel)) rfl
theorem q1096 : Cond.classLink RJ7 311 "[B" ∈ GW := gw6 (List.mem_of_getElem? (i := 157) (by decide +kernel)) rfl
theorem q1097 : Cond.methodLink RJ7 304 yJ9_min_7cf53 ∈ GW := gw6 (List.mem_of_getElem? (i := 158) (by decide +kernel)) rfl
theorem q1098 : Cond.methodLink RJ7 150 ⟨"java/lang/System", "arraycopy", "(Ljava/lang/Object;ILjava/lang/Object;II)V"⟩ ∈ GW := gw6 (List.mem_of_getElem? (i := 159) (by decide +kernel)) rfl
theorem q1099 : Cond.methodLink RJ5 83 yJ5_isLatin1_aae02 ∈ GW := gw6 (List.mem_of_getElem? (i := 160) (by decide +kernel)) rfl
theorem q1100 : Cond.instanceMethod yJ5_isLatin1_aae02 ∈ GW := gw6 (List.mem_of_getElem? (i := 161) (by decide +kernel)) rfl
theorem q1101 : Cond.selects RJ4 yJ5_isLatin1_aae02 yJ5_isLatin1_aae02 ∈ GW := gw6 (List.mem_of_getElem? (i := 163) (by decide +kernel)) rfl
theorem q1102 : Cond.code yJ5_isLatin1_aae02 cJ5_isLatin1_aae02 1 (some FieldType.boolean) ∈ GW := gw6 (List.mem_of_getElem? (i := 164) (by decide +kernel)) rfl
theorem q1103 : Cond.methodLink RJ5 226 yJ2_putCharsAt_cd4e5 ∈ GW := gw6 (List.mem_of_getElem? (i := 165) (by decide +kernel)) rfl
theorem q1104 : Cond.static yJ2_putCharsAt_cd4e5 ∈ GW := gw6 (List.mem_of_getElem? (i := 166) (by decide +kernel)) rfl
theorem q1105 : Cond.code yJ2_putCharsAt_cd4e5 cJ2_putCharsAt_cd4e5 7 (some FieldType.int) ∈ GW := gw6 (List.mem_of_getElem? (i := 167) (by decide +kernel)) rfl
theorem q1106 : Cond.methodLink RJ2 96 yJ2_checkBoundsBeginEnd_d044e ∈ GW := gw6 (List.mem_of_getElem? (i := 168) (by decide +kernel)) rfl
theorem q1107 : Cond.static yJ2_checkBoundsBeginEnd_d044e ∈ GW := gw6 (List.mem_of_getElem? (i := 169) (by decide +kernel)) rfl
theorem q1108 : Cond.code yJ2_checkBoundsBeginEnd_d044e cJ2_checkBoundsBeginEnd_d044e 3 none ∈ GW := gw6 (List.mem_of_getElem? (i := 170) (by decide +kernel)) rfl
theorem q1109 : Cond.methodLink RJ2 48 yJ2_length_9d52b ∈ GW := gw6 (List.mem_of_getElem? (i := 171) (by decide +kernel)) rfl
theorem q1110 : Cond.static yJ2_length_9d52b ∈ GW := gw6 (List.mem_of_getElem? (i := 172) (by decide +kernel)) rfl
theorem q1111 : Cond.code yJ2_length_9d52b cJ2_length_9d52b 1 (some FieldType.int) ∈ GW := gw6 (List.mem_of_getElem? (i := 173) (by decide +kernel)) rfl
theorem q1112 : Cond.methodLink RJ2 241 yJ0_checkBoundsBeginEnd_23922 ∈ GW := gw6 (List.mem_of_getElem? (i := 174) (by decide +kernel)) rfl
theorem q1113 : Cond.static yJ0_checkBoundsBeginEnd_23922 ∈ GW := gw6 (List.mem_of_getElem? (i := 175) (by decide +kernel)) rfl
theorem q1114 : Cond.code yJ0_checkBoundsBeginEnd_23922 cJ0_checkBoundsBeginEnd_23922 3 none ∈ GW := gw6 (List.mem_of_getElem? (i := 176) (by decide +kernel)) rfl
theorem q1115 : Cond.fieldLink RJ0 1053 "jdk/internal/util/Preconditions" "SIOOBE_FORMATTER" "Ljava/util/function/BiFunction;" ∈ GW := gw6 (List.mem_of_getElem? (i := 177) (by decide +kernel)) rfl
theorem q1116 : Cond.methodLink RJ0 1062 yJ3_checkFromToIndex_8c36e ∈ GW := gw6 (List.mem_of_getElem? (i := 179) (by decide +kernel)) rfl
theorem q1117 : Cond.static yJ3_checkFromToIndex_8c36e ∈ GW := gw6 (List.mem_of_getElem? (i := 180) (by decide +kernel)) rfl
theorem q1118 : Cond.code yJ3_checkFromToIndex_8c36e cJ3_checkFromToIndex_8c36e 4 (some FieldType.int) ∈ GW := gw6 (List.mem_of_getElem? (i := 181) (by decide +kernel)) rfl
theorem q1119 : Cond.methodLink RJ2 111 yJ2_putChar_b72d1 ∈ GW := gw6 (List.mem_of_getElem? (i := 182) (by decide +kernel)) rfl
theorem q1120 : Cond.static yJ2_putChar_b72d1 ∈ GW := gw6 (List.mem_of_getElem? (i := 183) (by decide +kernel)) rfl
theorem q1121 : Cond.code yJ2_putChar_b72d1 cJ2_putChar_b72d1 3 none ∈ GW := gw6 (List.mem_of_getElem? (i := 184) (by decide +kernel)) rfl
theorem q1122 : Cond.fieldLink RJ2 44 "java/lang/StringUTF16" "$assertionsDisabled" "Z" ∈ GW := gw6 (List.mem_of_getElem? (i := 185) (by decide +kernel)) rfl
theorem q1123 : Cond.fieldLink RJ2 59 "java/lang/StringUTF16" "HI_BYTE_SHIFT" "I" ∈ GW := gw6 (List.mem_of_getElem? (i := 187) (by decide +kernel)) rfl
theorem q1124 : Cond.fieldLink RJ2 63 "java/lang/StringUTF16" "LO_BYTE_SHIFT" "I" ∈ GW := gw6 (List.mem_of_getElem? (i := 189) (by decide +kernel)) rfl
theorem q1125 : Cond.methodLink RJ5 32 yJ0_length_8abf5 ∈ GW := gw6 (List.mem_of_getElem? (i := 191) (by decide +kernel)) rfl
theorem q1126 : Cond.instanceMethod yJ0_length_8abf5 ∈ GW := gw6 (List.mem_of_getElem? (i := 192) (by decide +kernel)) rfl
theorem q1127 : Cond.selects RJ0 yJ0_length_8abf5 yJ0_length_8abf5 ∈ GW := gw6 (List.mem_of_getElem? (i := 193) (by decide +kernel)) rfl
theorem q1128 : Cond.code yJ0_length_8abf5 cJ0_length_8abf5 1 (some FieldType.int) ∈ GW := gw6 (List.mem_of_getElem? (i := 194) (by decide +kernel)) rfl
theorem q1129 : Cond.methodLink RJ0 335 yJ0_coder_7d493 ∈ GW := gw6 (List.mem_of_getElem? (i := 195) (by decide +kernel)) rfl
theorem q1130 : Cond.instanceMethod yJ0_coder_7d493 ∈ GW := gw6 (List.mem_of_getElem? (i := 196) (by decide +kernel)) rfl
theorem q1131 : Cond.selects RJ0 yJ0_coder_7d493 yJ0_coder_7d493 ∈ GW := gw6 (List.mem_of_getElem? (i := 197) (by decide +kernel)) rfl
theorem q1132 : Cond.code yJ0_coder_7d493 cJ0_coder_7d493 1 (some FieldType.byte) ∈ GW := gw6 (List.mem_of_getElem? (i := 198) (by decide +kernel)) rfl
theorem q1133 : Cond.fieldLink RJ0 38 "java/lang/String" "COMPACT_STRINGS" "Z" ∈ GW := gw6 (List.mem_of_getElem? (i := 199) (by decide +kernel)) rfl
theorem q1134 : Cond.methodLink RJ5 208 yJ5_putStringAt_47b60 ∈ GW := gw6 (List.mem_of_getElem? (i := 200) (by decide +kernel)) rfl
theorem q1135 : Cond.instanceMethod yJ5_putStringAt_47b60 ∈ GW := gw6 (List.mem_of_getElem? (i := 202) (by decide +kernel)) rfl
theorem q1136 : Cond.code yJ5_putStringAt_47b60 cJ5_putStringAt_47b60 3 none ∈ GW := gw6 (List.mem_of_getElem? (i := 203) (by decide +kernel)) rfl
theorem q1137 : Cond.methodLink RJ5 397 yJ5_inflateIfNeededFor_a7421 ∈ GW := gw6 (List.mem_of_getElem? (i := 204) (by decide +kernel)) rfl
theorem q1138 : Cond.instanceMethod yJ5_inflateIfNeededFor_a7421 ∈ GW := gw6 (List.mem_of_getElem? (i := 206) (by decide +kernel)) rfl
theorem q1139 : Cond.code yJ5_inflateIfNeededFor_a7421 cJ5_inflateIfNeededFor_a7421 2 none ∈ GW := gw6 (List.mem_of_getElem? (i := 207) (by decide +kernel)) rfl
theorem q1140 : Cond.methodLink RJ5 40 yJ0_coder_7d493 ∈ GW := gw6 (List.mem_of_getElem? (i := 208) (by decide +kernel)) rfl
theorem q1141 : Cond.methodLink RJ5 195 yJ5_inflate_da8c8 ∈ GW := gw6 (List.mem_of_getElem? (i := 209) (by decide +kernel)) rfl
theorem q1142 : Cond.instanceMethod yJ5_inflate_da8c8 ∈ GW := gw6 (List.mem_of_getElem? (i := 211) (by decide +kernel)) rfl
theorem q1143 : Cond.code yJ5_inflate_da8c8 cJ5_inflate_da8c8 2 none ∈ GW := gw6 (List.mem_of_getElem? (i := 212) (by decide +kernel)) rfl
theorem q1144 : Cond.methodLink RJ5 125 yJ1_inflate_0e8fd ∈ GW := gw6 (List.mem_of_getElem? (i := 213) (by decide +kernel)) rfl
theorem q1145 : Cond.static yJ1_inflate_0e8fd ∈ GW := gw6 (List.mem_of_getElem? (i := 214) (by decide +kernel)) rfl
theorem q1146 : Cond.code yJ1_inflate_0e8fd cJ1_inflate_0e8fd 5 none ∈ GW := gw6 (List.mem_of_getElem? (i := 215) (by decide +kernel)) rfl
theorem q1147 : Cond.methodLink RJ1 240 yJ2_inflate_0e8fd ∈ GW := gw6 (List.mem_of_getElem? (i := 216) (by decide +kernel)) rfl
theorem q1148 : Cond.static yJ2_inflate_0e8fd ∈ GW := gw6 (List.mem_of_getElem? (i := 217) (by decide +kernel)) rfl
theorem q1149 : Cond.code yJ2_inflate_0e8fd cJ2_inflate_0e8fd 6 none ∈ GW := gw6 (List.mem_of_getElem? (i := 218) (by decide +kernel)) rfl
theorem q1150 : Cond.methodLink RJ2 173 yJ2_checkBoundsOffCount_d044e ∈ GW := gw6 (List.mem_of_getElem? (i := 219) (by decide +kernel)) rfl
theorem q1151 : Cond.static yJ2_checkBoundsOffCount_d044e ∈ GW := gw6 (List.mem_of_getElem? (i := 220) (by decide +kernel)) rfl
theorem q1152 : Cond.code yJ2_checkBoundsOffCount_d044e cJ2_checkBoundsOffCount_d044e 3 none ∈ GW := gw6 (List.mem_of_getElem? (i := 221) (by decide +kernel)) rfl
theorem q1153 : Cond.methodLink RJ2 419 yJ0_checkBoundsOffCount_cabcc ∈ GW := gw6 (List.mem_of_getElem? (i := 222) (by decide +kernel)) rfl
theorem q1154 : Cond.static yJ0_checkBoundsOffCount_cabcc ∈ GW := gw6 (List.mem_of_getElem? (i := 223) (by decide +kernel)) rfl
theorem q1155 : Cond.code yJ0_checkBoundsOffCount_cabcc cJ0_checkBoundsOffCount_cabcc 3 (some FieldType.int) ∈ GW := gw6 (List.mem_of_getElem? (i := 224) (by decide +kernel)) rfl
theorem q1156 : Cond.methodLink RJ0 1065 yJ3_checkFromIndexSize_8c36e ∈ GW := gw6 (List.mem_of_getElem? (i := 225) (by decide +kernel)) rfl
theorem q1157 : Cond.static yJ3_checkFromIndexSize_8c36e ∈ GW := gw6 (List.mem_of_getElem? (i := 226) (by decide +kernel)) rfl
theorem q1158 : Cond.code yJ3_checkFromIndexSize_8c36e cJ3_checkFromIndexSize_8c36e 4 (some FieldType.int) ∈ GW := gw6 (List.mem_of_getElem? (i := 227) (by decide +kernel)) rfl
theorem q1159 : Cond.methodLink RJ5 399 yJ0_getBytes_840e7 ∈ GW := gw6 (List.mem_of_getElem? (i := 228) (by decide +kernel)) rfl
theorem q1160 : Cond.instanceMethod yJ0_getBytes_840e7 ∈ GW := gw6 (List.mem_of_getElem? (i := 229) (by decide +kernel)) rfl
theorem q1161 : Cond.selects RJ0 yJ0_getBytes_840e7 yJ0_getBytes_840e7 ∈ GW := gw6 (List.mem_of_getElem? (i := 230) (by decide +kernel)) rfl
theorem q1162 : Cond.code yJ0_getBytes_840e7 cJ0_getBytes_840e7 4 none ∈ GW := gw6 (List.mem_of_getElem? (i := 231) (by decide +kernel)) rfl
theorem q1163 : Cond.methodLink RJ0 212 ⟨"java/lang/System", "arraycopy", "(Ljava/lang/Object;ILjava/lang/Object;II)V"⟩ ∈ GW := gw6 (List.mem_of_getElem? (i := 232) (by decide +kernel)) rfl
theorem q1164 : Cond.methodLink RJ0 106 yJ1_inflate_0e8fd ∈ GW := gw6 (List.mem_of_getElem? (i := 233) (by decide +kernel)) rfl
theorem q1165 : Cond.methodLink RJx7c733 19 yJ4_append_bf812 ∈ GW := gw6 (List.mem_of_getElem? (i := 234) (by decide +kernel)) rfl
theorem q1166 : Cond.instanceMethod yJ4_append_bf812 ∈ GW := gw6 (List.mem_of_getElem? (i := 235) (by decide +kernel)) rfl
theorem q1167 : Cond.selects RJ4 yJ4_append_bf812 yJ4_append_bf812 ∈ GW := gw6 (List.mem_of_getElem? (i := 236) (by decide +kernel)) rfl
theorem q1168 : Cond.code yJ4_append_bf812 cJ4_append_bf812 2 (some (FieldType.object "java/lang/StringBuilder")) ∈ GW := gw6 (List.mem_of_getElem? (i := 237) (by decide +kernel)) rfl
theorem q1169 : Cond.methodLink RJ4 53 yJ5_append_c97b9 ∈ GW := gw6 (List.mem_of_getElem? (i := 238) (by decide +kernel)) rfl
theorem q1170 : Cond.instanceMethod yJ5_append_c97b9 ∈ GW := gw6 (List.mem_of_getElem? (i := 239) (by decide +kernel)) rfl
theorem q1171 : Cond.code yJ5_append_c97b9 cJ5_append_c97b9 4 (some (FieldType.object "java/lang/AbstractStringBuilder")) ∈ GW := gw7 (List.mem_of_getElem? (i := 0) (by decide +kernel)) rfl
theorem q1172 : Cond.methodLink RJ5 245 yJ6_stringSize_0f7a4 ∈ GW := gw7 (List.mem_of_getElem? (i := 1) (by decide +kernel)) rfl
theorem q1173 : Cond.static yJ6_stringSize_0f7a4 ∈ GW := gw7 (List.mem_of_getElem? (i := 2) (by decide +kernel)) rfl
theorem q1174 : Cond.code yJ6_stringSize_0f7a4 cJ6_stringSize_0f7a4 4 (some FieldType.int) ∈ GW := gw7 (List.mem_of_getElem? (i := 3) (by decide +kernel)) rfl
theorem q1175 : Cond.methodLink RJ5 248 yJ6_getChars_ba4f3 ∈ GW := gw7 (List.mem_of_getElem? (i := 4) (by decide +kernel)) rfl
theorem q1176 : Cond.static yJ6_getChars_ba4f3 ∈ GW := gw7 (List.mem_of_getElem? (i := 5) (by decide +kernel)) rfl
theorem q1177 : Cond.code yJ6_getChars_ba4f3 cJ6_getChars_ba4f3 7 (some FieldType.int) ∈ GW := gw7 (List.mem_of_getElem? (i := 6) (by decide +kernel)) rfl
theorem q1178 : Cond.fieldLink RJ6 83 "java/lang/Integer" "DigitOnes" "[B" ∈ GW := gw7 (List.mem_of_getElem? (i := 7) (by decide +kernel)) rfl
theorem q1179 : Cond.fieldLink RJ6 87 "java/lang/Integer" "DigitTens" "[B" ∈ GW := gw7 (List.mem_of_getElem? (i := 9) (by decide +kernel)) rfl
theorem q1180 : Cond.methodLink RJ5 251 yJ2_getChars_46870 ∈ GW := gw7 (List.mem_of_getElem? (i := 11) (by decide +kernel)) rfl
theorem q1181 : Cond.static yJ2_getChars_46870 ∈ GW := gw7 (List.mem_of_getElem? (i := 12) (by decide +kernel)) rfl
theorem q1182 : Cond.code yJ2_getChars_46870 cJ2_getChars_46870 5 (some FieldType.int) ∈ GW := gw7 (List.mem_of_getElem? (i := 13) (by decide +kernel)) rfl
theorem q1183 : Cond.methodLink RJ2 393 yJ2_getChars_ba4f3 ∈ GW := gw7 (List.mem_of_getElem? (i := 14) (by decide +kernel)) rfl
theorem q1184 : Cond.static yJ2_getChars_ba4f3 ∈ GW := gw7 (List.mem_of_getElem? (i := 15) (by decide +kernel)) rfl
theorem q1185 : Cond.code yJ2_getChars_ba4f3 cJ2_getChars_ba4f3 7 (some FieldType.int) ∈ GW := gw7 (List.mem_of_getElem? (i := 16) (by decide +kernel)) rfl
theorem q1186 : Cond.fieldLink RJ2 403 "java/lang/Integer" "DigitOnes" "[B" ∈ GW := gw7 (List.mem_of_getElem? (i := 17) (by decide +kernel)) rfl
theorem q1187 : Cond.fieldLink RJ2 407 "java/lang/Integer" "DigitTens" "[B" ∈ GW := gw7 (List.mem_of_getElem? (i := 18) (by decide +kernel)) rfl
theorem q1188 : Cond.methodLink RJx7c733 22 yJ4_toString_0e30d ∈ GW := gw7 (List.mem_of_getElem? (i := 19) (by decide +kernel)) rfl
theorem q1189 : Cond.instanceMethod yJ4_toString_0e30d ∈ GW := gw7 (List.mem_of_getElem? (i := 20) (by decide +kernel)) rfl
theorem q1190 : Cond.selects RJ4 yJ4_toString_0e30d yJ4_toString_0e30d ∈ GW := gw7 (List.mem_of_getElem? (i := 21) (by decide +kernel)) rfl
theorem q1191 : Cond.code yJ4_toString_0e30d cJ4_toString_0e30d 1 (some (FieldType.object "java/lang/String")) ∈ GW := gw7 (List.mem_of_getElem? (i := 22) (by decide +kernel)) rfl
theorem q1192 : Cond.classLink RJ4 18 RJ0 ∈ GW := gw7 (List.mem_of_getElem? (i := 23) (by decide +kernel)) rfl
theorem q1193 : Cond.methodLink RJ4 137 yJ0_init_81219 ∈ GW := gw7 (List.mem_of_getElem? (i := 24) (by decide +kernel)) rfl
theorem q1194 : Cond.instanceMethod yJ0_init_81219 ∈ GW := gw7 (List.mem_of_getElem? (i := 25) (by decide +kernel)) rfl
theorem q1195 : Cond.code yJ0_init_81219 cJ0_init_81219 2 none ∈ GW := gw7 (List.mem_of_getElem? (i := 26) (by decide +kernel)) rfl
theorem q1196 : Cond.methodLink RJ0 489 yJ0_init_db425 ∈ GW := gw7 (List.mem_of_getElem? (i := 27) (by decide +kernel)) rfl
theorem q1197 : Cond.instanceMethod yJ0_init_db425 ∈ GW := gw7 (List.mem_of_getElem? (i := 28) (by decide +kernel)) rfl
theorem q1198 : Cond.code yJ0_init_db425 cJ0_init_db425 5 none ∈ GW := gw7 (List.mem_of_getElem? (i := 29) (by decide +kernel)) rfl
theorem q1199 : Cond.methodLink RJ0 1 ⟨"java/lang/Object", "<init>", "()V"⟩ ∈ GW := gw7 (List.mem_of_getElem? (i := 30) (by decide +kernel)) rfl
theorem q1200 : Cond.methodLink RJ0 552 yJ5_getValue_6d5f1 ∈ GW := gw7 (List.mem_of_getElem? (i := 31) (by decide +kernel)) rfl
theorem q1201 : Cond.instanceMethod yJ5_getValue_6d5f1 ∈ GW := gw7 (List.mem_of_getElem? (i := 32) (by decide +kernel)) rfl
theorem q1202 : Cond.selects RJ4 yJ5_getValue_6d5f1 yJ5_getValue_6d5f1 ∈ GW := gw7 (List.mem_of_getElem? (i := 34) (by decide +kernel)) rfl
theorem q1203 : Cond.code yJ5_getValue_6d5f1 cJ5_getValue_6d5f1 1 (some (FieldType.array FieldType.byte)) ∈ GW := gw7 (List.mem_of_getElem? (i := 35) (by decide +kernel)) rfl
theorem q1204 : Cond.methodLink RJ0 549 yJ5_length_8abf5 ∈ GW := gw7 (List.mem_of_getElem? (i := 36) (by decide +kernel)) rfl
theorem q1205 : Cond.instanceMethod yJ5_length_8abf5 ∈ GW := gw7 (List.mem_of_getElem? (i := 37) (by decide +kernel)) rfl
theorem q1206 : Cond.selects RJ4 yJ5_length_8abf5 yJ4_length_8abf5 ∈ GW := gw7 (List.mem_of_getElem? (i := 39) (by decide +kernel)) rfl
theorem q1207 : Cond.instanceMethod yJ4_length_8abf5 ∈ GW := gw7 (List.mem_of_getElem? (i := 40) (by decide +kernel)) rfl
theorem q1208 : Cond.code yJ4_length_8abf5 cJ4_length_8abf5 1 (some FieldType.int) ∈ GW := gw7 (List.mem_of_getElem? (i := 41) (by decide +kernel)) rfl
theorem q1209 : Cond.methodLink RJ4 343 yJ5_length_8abf5 ∈ GW := gw7 (List.mem_of_getElem? (i := 42) (by decide +kernel)) rfl
theorem q1210 : Cond.code yJ5_length_8abf5 cJ5_length_8abf5 1 (some FieldType.int) ∈ GW := gw7 (List.mem_of_getElem? (i := 43) (by decide +kernel)) rfl
theorem q1211 : Cond.methodLink RJ0 1047 yJ5_isLatin1_aae02 ∈ GW := gw7 (List.mem_of_getElem? (i := 44) (by decide +kernel)) rfl
theorem q1212 : Cond.methodLink RJ0 54 yJ7_copyOfRange_39247 ∈ GW := gw7 (List.mem_of_getElem? (i := 45) (by decide +kernel)) rfl
theorem q1213 : Cond.static yJ7_copyOfRange_39247 ∈ GW := gw7 (List.mem_of_getElem? (i := 46) (by decide +kernel)) rfl
theorem q1214 : Cond.code yJ7_copyOfRange_39247 cJ7_copyOfRange_39247 3 (some (FieldType.array FieldType.byte)) ∈ GW := gw7 (List.mem_of_getElem? (i := 47) (by decide +kernel)) rfl
theorem q1215 : Cond.methodLink RJ7 339 yJ7_copyOfRangeByte_39247 ∈ GW := gw7 (List.mem_of_getElem? (i := 48) (by decide +kernel)) rfl
theorem q1216 : Cond.static yJ7_copyOfRangeByte_39247 ∈ GW := gw7 (List.mem_of_getElem? (i := 49) (by decide +kernel)) rfl
theorem q1217 : Cond.code yJ7_copyOfRangeByte_39247 cJ7_copyOfRangeByte_39247 5 (some (FieldType.array FieldType.byte)) ∈ GW := gw7 (List.mem_of_getElem? (i := 50) (by decide +kernel)) rfl
theorem q1218 : Cond.methodLink RJ7 343 yJ7_checkLength_df160 ∈ GW := gw7 (List.mem_of_getElem? (i := 51) (by decide +kernel)) rfl
theorem q1219 : Cond.static yJ7_checkLength_df160 ∈ GW := gw7 (List.mem_of_getElem? (i := 52) (by decide +kernel)) rfl
theorem q1220 : Cond.code yJ7_checkLength_df160 cJ7_checkLength_df160 2 none ∈ GW := gw7 (List.mem_of_getElem? (i := 53) (by decide +kernel)) rfl
theorem q1221 : Cond.classLink RJ7 43 "java/lang/IllegalArgumentException" ∈ GW := gw7 (List.mem_of_getElem? (i := 54) (by decide +kernel)) rfl
theorem q1222 : Cond.classLink RJ7 45 RJ4 ∈ GW := gw7 (List.mem_of_getElem? (i := 55) (by decide +kernel)) rfl
theorem q1223 : Cond.methodLink RJ7 47 yJ4_init_da8c8 ∈ GW := gw7 (List.mem_of_getElem? (i := 56) (by decide +kernel)) rfl
theorem q1224 : Cond.methodLink RJ7 54 yJ4_append_bf812 ∈ GW := gw7 (List.mem_of_getElem? (i := 57) (by decide +kernel)) rfl
theorem q1225 : Cond.methodLink RJ7 50 yJ4_append_15ec4 ∈ GW := gw7 (List.mem_of_getElem? (i := 59) (by decide +kernel)) rfl
theorem q1226 : Cond.methodLink RJ7 61 yJ4_toString_0e30d ∈ GW := gw7 (List.mem_of_getElem? (i := 60) (by decide +kernel)) rfl
theorem q1227 : Cond.methodLink RJ7 65 ⟨"java/lang/IllegalArgumentException", "<init>", "(Ljava/lang/String;)V"⟩ ∈ GW := gw7 (List.mem_of_getElem? (i := 61) (by decide +kernel)) rfl
theorem q1228 : Cond.methodLink RJ0 1051 yJ2_compress_39247 ∈ GW := gw7 (List.mem_of_getElem? (i := 62) (by decide +kernel)) rfl
theorem q1229 : Cond.static yJ2_compress_39247 ∈ GW := gw7 (List.mem_of_getElem? (i := 63) (by decide +kernel)) rfl
theorem q1230 : Cond.code yJ2_compress_39247 cJ2_compress_39247 6 (some (FieldType.array FieldType.byte)) ∈ GW := gw7 (List.mem_of_getElem? (i := 64) (by decide +kernel)) rfl
theorem q1231 : Cond.methodLink RJ2 123 yJ2_compress_5af95 ∈ GW := gw7 (List.mem_of_getElem? (i := 65) (by decide +kernel)) rfl
theorem q1232 : Cond.static yJ2_compress_5af95 ∈ GW := gw7 (List.mem_of_getElem? (i := 66) (by decide +kernel)) rfl
theorem q1233 : Cond.code yJ2_compress_5af95 cJ2_compress_5af95 7 (some FieldType.int) ∈ GW := gw7 (List.mem_of_getElem? (i := 67) (by decide +kernel)) rfl
theorem q1234 : Cond.methodLink RJ2 71 yJ2_getChar_3b067 ∈ GW := gw7 (List.mem_of_getElem? (i := 68) (by decide +kernel)) rfl
theorem q1235 : Cond.static yJ2_getChar_3b067 ∈ GW := gw7 (List.mem_of_getElem? (i := 69) (by decide +kernel)) rfl
theorem q1236 : Cond.code yJ2_getChar_3b067 cJ2_getChar_3b067 2 (some FieldType.char) ∈ GW := gw7 (List.mem_of_getElem? (i := 70) (by decide +kernel)) rfl
theorem q1237 : Cond.methodLink RJ2 126 yJ7_copyOfRange_39247 ∈ GW := gw7 (List.mem_of_getElem? (i := 71) (by decide +kernel)) rfl
theorem q1238 : Cond.methodLink RJ0 47 yJ2_coderFromArrayLen_85cad ∈ GW := gw7 (List.mem_of_getElem? (i := 72) (by decide +kernel)) rfl
theorem q1239 : Cond.static yJ2_coderFromArrayLen_85cad ∈ GW := gw7 (List.mem_of_getElem? (i := 73) (by decide +kernel)) rfl
theorem q1240 : Cond.code yJ2_coderFromArrayLen_85cad cJ2_coderFromArrayLen_85cad 2 (some FieldType.byte) ∈ GW := gw7 (List.mem_of_getElem? (i := 74) (by decide +kernel)) rfl
theorem q1241 : Cond.fieldLink RJ0 9 "java/lang/String" "value" "[B" ∈ GW := gw7 (List.mem_of_getElem? (i := 75) (by decide +kernel)) rfl
theorem q1242 : Cond.fieldLink RJ0 15 "java/lang/String" "coder" "B" ∈ GW := gw7 (List.mem_of_getElem? (i := 76) (by decide +kernel)) rfl
theorem q1243 : Cond.methodLink RJx7c733 7 ⟨"java/lang/IndexOutOfBoundsException", "<init>", "(Ljava/lang/String;)V"⟩ ∈ GW := gw7 (List.mem_of_getElem? (i := 82) (by decide +kernel)) rfl
theorem q1244 : Cond.methodLink RJ5 133 yJ1_fillNull_b72d1 ∈ GW := gw7 (List.mem_of_getElem? (i := 90) (by decide +kernel)) rfl
theorem q1245 : Cond.static yJ1_fillNull_b72d1 ∈ GW := gw7 (List.mem_of_getElem? (i := 91) (by decide +kernel)) rfl
theorem q1246 : Cond.code yJ1_fillNull_b72d1 cJ1_fillNull_b72d1 3 none ∈ GW := gw7 (List.mem_of_getElem? (i := 92) (by decide +kernel)) rfl
theorem q1247 : Cond.methodLink RJ1 236 yJ7_fill_eb02e ∈ GW := gw7 (List.mem_of_getElem? (i := 93) (by decide +kernel)) rfl
theorem q1248 : Cond.static yJ7_fill_eb02e ∈ GW := gw7 (List.mem_of_getElem? (i := 94) (by decide +kernel)) rfl
theorem q1249 : Cond.code yJ7_fill_eb02e cJ7_fill_eb02e 5 none ∈ GW := gw7 (List.mem_of_getElem? (i := 95) (by decide +kernel)) rfl
theorem q1250 : Cond.methodLink RJ7 13 yJ7_rangeCheck_23922 ∈ GW := gw7 (List.mem_of_getElem? (i := 96) (by decide +kernel)) rfl
theorem q1251 : Cond.static yJ7_rangeCheck_23922 ∈ GW := gw7 (List.mem_of_getElem? (i := 97) (by decide +kernel)) rfl
theorem q1252 : Cond.code yJ7_rangeCheck_23922 cJ7_rangeCheck_23922 3 none ∈ GW := gw7 (List.mem_of_getElem? (i := 98) (by decide +kernel)) rfl
theorem q1253 : Cond.classLink RJ7 68 RJx00060 ∈ GW := gw7 (List.mem_of_getElem? (i := 102) (by decide +kernel)) rfl
theorem q1254 : Cond.methodLink RJ7 70 yJx00060_init_d00df ∈ GW := gw7 (List.mem_of_getElem? (i := 103) (by decide +kernel)) rfl
theorem q1255 : Cond.instanceMethod yJx00060_init_d00df ∈ GW := gw7 (List.mem_of_getElem? (i := 104) (by decide +kernel)) rfl
theorem q1256 : Cond.code yJx00060_init_d00df cJx00060_init_d00df 2 none ∈ GW := gw7 (List.mem_of_getElem? (i := 105) (by decide +kernel)) rfl
theorem q1257 : Cond.classLink RJx00060 10 RJ4 ∈ GW := gw7 (List.mem_of_getElem? (i := 106) (by decide +kernel)) rfl
theorem q1258 : Cond.methodLink RJx00060 12 yJ4_init_da8c8 ∈ GW := gw7 (List.mem_of_getElem? (i := 107) (by decide +kernel)) rfl
theorem q1259 : Cond.methodLink RJx00060 15 yJ4_append_15ec4 ∈ GW := gw7 (List.mem_of_getElem? (i := 109) (by decide +kernel)) rfl
theorem q1260 : Cond.methodLink RJx00060 19 yJ4_append_bf812 ∈ GW := gw7 (List.mem_of_getElem? (i := 110) (by decide +kernel)) rfl
theorem q1261 : Cond.methodLink RJx00060 22 yJ4_toString_0e30d ∈ GW := gw7 (List.mem_of_getElem? (i := 111) (by decide +kernel)) rfl
theorem q1262 : Cond.methodLink RJ5 137 yJ2_fillNull_b72d1 ∈ GW := gw7 (List.mem_of_getElem? (i := 112) (by decide +kernel)) rfl
theorem q1263 : Cond.static yJ2_fillNull_b72d1 ∈ GW := gw7 (List.mem_of_getElem? (i := 113) (by decide +kernel)) rfl
theorem q1264 : Cond.code yJ2_fillNull_b72d1 cJ2_fillNull_b72d1 3 none ∈ GW := gw7 (List.mem_of_getElem? (i := 114) (by decide +kernel)) rfl
theorem q1265 : Cond.methodLink RJ2 380 yJ7_fill_eb02e ∈ GW := gw7 (List.mem_of_getElem? (i := 115) (by decide +kernel)) rfl
theorem q1266 : Cond.methodLink RX9 344 yJ4_append_cf468 ∈ GW := gw7 (List.mem_of_getElem? (i := 116) (by decide +kernel)) rfl
theorem q1267 : Cond.instanceMethod yJ4_append_cf468 ∈ GW := gw7 (List.mem_of_getElem? (i := 117) (by decide +kernel)) rfl
theorem q1268 : Cond.selects RJ4 yJ4_append_cf468 yJ4_append_cf468 ∈ GW := gw7 (List.mem_of_getElem? (i := 118) (by decide +kernel)) rfl
theorem q1269 : Cond.code yJ4_append_cf468 cJ4_append_cf468 2 (some (FieldType.object "java/lang/StringBuilder")) ∈ GW := gw7 (List.mem_of_getElem? (i := 119) (by decide +kernel)) rfl
theorem q1270 : Cond.methodLink RJ4 50 yJ5_append_3fe6f ∈ GW := gw7 (List.mem_of_getElem? (i := 120) (by decide +kernel)) rfl
theorem q1271 : Cond.instanceMethod yJ5_append_3fe6f ∈ GW := gw7 (List.mem_of_getElem? (i := 121) (by decide +kernel)) rfl
theorem q1272 : Cond.code yJ5_append_3fe6f cJ5_append_3fe6f 2 (some (FieldType.object "java/lang/AbstractStringBuilder")) ∈ GW := gw7 (List.mem_of_getElem? (i := 122) (by decide +kernel)) rfl
theorem q1273 : Cond.methodLink RJ5 191 yJ1_canEncode_fc78d ∈ GW := gw7 (List.mem_of_getElem? (i := 123) (by decide +kernel)) rfl
theorem q1274 : Cond.static yJ1_canEncode_fc78d ∈ GW := gw7 (List.mem_of_getElem? (i := 124) (by decide +kernel)) rfl
theorem q1275 : Cond.code yJ1_canEncode_fc78d cJ1_canEncode_fc78d 1 (some FieldType.boolean) ∈ GW := gw7 (List.mem_of_getElem? (i := 125) (by decide +kernel)) rfl
theorem q1276 : Cond.methodLink RJ5 197 yJ2_putCharSB_b72d1 ∈ GW := gw7 (List.mem_of_getElem? (i := 126) (by decide +kernel)) rfl
theorem q1277 : Cond.static yJ2_putCharSB_b72d1 ∈ GW := gw7 (List.mem_of_getElem? (i := 127) (by decide +kernel)) rfl
theorem q1278 : Cond.code yJ2_putCharSB_b72d1 cJ2_putCharSB_b72d1 3 none ∈ GW := gw7 (List.mem_of_getElem? (i := 128) (by decide +kernel)) rfl
theorem q1279 : Cond.methodLink RJ2 67 yJ2_checkIndex_2214a ∈ GW := gw7 (List.mem_of_getElem? (i := 129) (by decide +kernel)) rfl
theorem q1280 : Cond.static yJ2_checkIndex_2214a ∈ GW := gw7 (List.mem_of_getElem? (i := 130) (by decide +kernel)) rfl
theorem q1281 : Cond.code yJ2_checkIndex_2214a cJ2_checkIndex_2214a 2 none ∈ GW := gw7 (List.mem_of_getElem? (i := 131) (by decide +kernel)) rfl
theorem q1282 : Cond.methodLink RJ2 414 yJ0_checkIndex_df160 ∈ GW := gw7 (List.mem_of_getElem? (i := 132) (by decide +kernel)) rfl
theorem q1283 : Cond.static yJ0_checkIndex_df160 ∈ GW := gw7 (List.mem_of_getElem? (i := 133) (by decide +kernel)) rfl
theorem q1284 : Cond.code yJ0_checkIndex_df160 cJ0_checkIndex_df160 2 none ∈ GW := gw7 (List.mem_of_getElem? (i := 134) (by decide +kernel)) rfl
theorem q1285 : Cond.methodLink RJ0 1059 yJ3_checkIndex_8e157 ∈ GW := gw7 (List.mem_of_getElem? (i := 135) (by decide +kernel)) rfl
theorem q1286 : Cond.static yJ3_checkIndex_8e157 ∈ GW := gw7 (List.mem_of_getElem? (i := 136) (by decide +kernel)) rfl
theorem q1287 : Cond.code yJ3_checkIndex_8e157 cJ3_checkIndex_8e157 3 (some FieldType.int) ∈ GW := gw7 (List.mem_of_getElem? (i := 137) (by decide +kernel)) rfl
theorem q1288 : Cond.methodLink RX9 348 yJ4_append_bf812 ∈ GW := gw7 (List.mem_of_getElem? (i := 138) (by decide +kernel)) rfl
theorem q1289 : Cond.methodLink RX9 351 yJ4_length_8abf5 ∈ GW := gw7 (List.mem_of_getElem? (i := 139) (by decide +kernel)) rfl
theorem q1290 : Cond.methodLink RL 313 yL_renderHammer ∈ GW := gw7 (List.mem_of_getElem? (i := 140) (by decide +kernel)) rfl
theorem q1291 : Cond.static yL_renderHammer ∈ GW := gw7 (List.mem_of_getElem? (i := 141) (by decide +kernel)) rfl
theorem q1292 : Cond.codeWith yL_renderHammer cL_renderHammer 4 (some FieldType.int) [(0, 9, 12, 15)] ∈ GW := gw7 (List.mem_of_getElem? (i := 142) (by decide +kernel)) rfl
theorem q1293 : Cond.methodLink RL 128 yX9_renderHammer ∈ GW := gw7 (List.mem_of_getElem? (i := 143) (by decide +kernel)) rfl
theorem q1294 : Cond.instanceMethod yX9_renderHammer ∈ GW := gw7 (List.mem_of_getElem? (i := 144) (by decide +kernel)) rfl
theorem q1295 : Cond.selects RX9 yX9_renderHammer yX9_renderHammer ∈ GW := gw7 (List.mem_of_getElem? (i := 145) (by decide +kernel)) rfl
theorem q1296 : Cond.code yX9_renderHammer cX9_renderHammer 2 (some FieldType.int) ∈ GW := gw7 (List.mem_of_getElem? (i := 146) (by decide +kernel)) rfl
theorem q1297 : Cond.methodLink RL 316 yL_outputAt ∈ GW := gw7 (List.mem_of_getElem? (i := 147) (by decide +kernel)) rfl
theorem q1298 : Cond.static yL_outputAt ∈ GW := gw7 (List.mem_of_getElem? (i := 148) (by decide +kernel)) rfl
theorem q1299 : Cond.codeWith yL_outputAt cL_outputAt 4 (some FieldType.int) [(0, 9, 12, 15)] ∈ GW := gw7 (List.mem_of_getElem? (i := 149) (by decide +kernel)) rfl
theorem q1300 : Cond.methodLink RL 131 yX9_outputAt ∈ GW := gw7 (List.mem_of_getElem? (i := 150) (by decide +kernel)) rfl
theorem q1301 : Cond.instanceMethod yX9_outputAt ∈ GW := gw7 (List.mem_of_getElem? (i := 151) (by decide +kernel)) rfl
theorem q1302 : Cond.selects RX9 yX9_outputAt yX9_outputAt ∈ GW := gw7 (List.mem_of_getElem? (i := 152) (by decide +kernel)) rfl
theorem q1303 : Cond.code yX9_outputAt cX9_outputAt 2 (some FieldType.char) ∈ GW := gw7 (List.mem_of_getElem? (i := 153) (by decide +kernel)) rfl
theorem q1304 : Cond.methodLink RX9 356 yJ4_charAt_5068e ∈ GW := gw7 (List.mem_of_getElem? (i := 155) (by decide +kernel)) rfl
theorem q1305 : Cond.instanceMethod yJ4_charAt_5068e ∈ GW := gw7 (List.mem_of_getElem? (i := 156) (by decide +kernel)) rfl
theorem q1306 : Cond.selects RJ4 yJ4_charAt_5068e yJ4_charAt_5068e ∈ GW := gw7 (List.mem_of_getElem? (i := 157) (by decide +kernel)) rfl
theorem q1307 : Cond.code yJ4_charAt_5068e cJ4_charAt_5068e 2 (some FieldType.char) ∈ GW := gw7 (List.mem_of_getElem? (i := 158) (by decide +kernel)) rfl
theorem q1308 : Cond.methodLink RJ4 329 yJ5_charAt_5068e ∈ GW := gw7 (List.mem_of_getElem? (i := 159) (by decide +kernel)) rfl
theorem q1309 : Cond.instanceMethod yJ5_charAt_5068e ∈ GW := gw7 (List.mem_of_getElem? (i := 160) (by decide +kernel)) rfl
theorem q1310 : Cond.code yJ5_charAt_5068e cJ5_charAt_5068e 5 (some FieldType.char) ∈ GW := gw7 (List.mem_of_getElem? (i := 161) (by decide +kernel)) rfl
theorem q1311 : Cond.methodLink RJ5 138 yJ9_min_7cf53 ∈ GW := gw7 (List.mem_of_getElem? (i := 162) (by decide +kernel)) rfl
theorem q1312 : Cond.methodLink RJ5 144 yJ0_checkIndex_df160 ∈ GW := gw7 (List.mem_of_getElem? (i := 163) (by decide +kernel)) rfl
theorem q1313 : Cond.methodLink RJ5 148 yJ2_getChar_3b067 ∈ GW := gw7 (List.mem_of_getElem? (i := 164) (by decide +kernel)) rfl
theorem q1314 : Cond.methodLink RL 319 yL_type ∈ GW := gw7 (List.mem_of_getElem? (i := 165) (by decide +kernel)) rfl
theorem q1315 : Cond.static yL_type ∈ GW := gw7 (List.mem_of_getElem? (i := 166) (by decide +kernel)) rfl
theorem q1316 : Cond.codeWith yL_type cL_type 4 (some FieldType.int) [(0, 9, 12, 13), (0, 9, 15, 17)] ∈ GW := gw7 (List.mem_of_getElem? (i := 167) (by decide +kernel)) rfl
theorem q1317 : Cond.methodLink RL 135 yX9_type ∈ GW := gw7 (List.mem_of_getElem? (i := 168) (by decide +kernel)) rfl
theorem q1318 : Cond.instanceMethod yX9_type ∈ GW := gw7 (List.mem_of_getElem? (i := 169) (by decide +kernel)) rfl
theorem q1319 : Cond.selects RX9 yX9_type yX9_type ∈ GW := gw7 (List.mem_of_getElem? (i := 170) (by decide +kernel)) rfl
theorem q1320 : Cond.code yX9_type cX9_type 2 (some FieldType.int) ∈ GW := gw7 (List.mem_of_getElem? (i := 171) (by decide +kernel)) rfl
theorem q1321 : Cond.methodLink RX9 362 yX6_isFull ∈ GW := gw7 (List.mem_of_getElem? (i := 173) (by decide +kernel)) rfl
theorem q1322 : Cond.instanceMethod yX6_isFull ∈ GW := gw7 (List.mem_of_getElem? (i := 174) (by decide +kernel)) rfl
theorem q1323 : Cond.selects RX6 yX6_isFull yX6_isFull ∈ GW := gw7 (List.mem_of_getElem? (i := 175) (by decide +kernel)) rfl
theorem q1324 : Cond.code yX6_isFull cX6_isFull 1 (some FieldType.boolean) ∈ GW := gw7 (List.mem_of_getElem? (i := 176) (by decide +kernel)) rfl
theorem q1325 : Cond.methodLink RX9 367 yX6_append ∈ GW := gw7 (List.mem_of_getElem? (i := 178) (by decide +kernel)) rfl
theorem q1326 : Cond.instanceMethod yX6_append ∈ GW := gw7 (List.mem_of_getElem? (i := 179) (by decide +kernel)) rfl
theorem q1327 : Cond.selects RX6 yX6_append yX6_append ∈ GW := gw7 (List.mem_of_getElem? (i := 180) (by decide +kernel)) rfl
theorem q1328 : Cond.code yX6_append cX6_append 2 (some FieldType.int) ∈ GW := gw7 (List.mem_of_getElem? (i := 181) (by decide +kernel)) rfl
theorem q1329 : Cond.methodLink RX6 35 yX6_isFull ∈ GW := gw7 (List.mem_of_getElem? (i := 182) (by decide +kernel)) rfl
theorem q1330 : Cond.methodLink RL 323 yL_runScript ∈ GW := gw7 (List.mem_of_getElem? (i := 183) (by decide +kernel)) rfl
theorem q1331 : Cond.static yL_runScript ∈ GW := gw7 (List.mem_of_getElem? (i := 184) (by decide +kernel)) rfl
theorem q1332 : Cond.codeWith yL_runScript cL_runScript 3 (some FieldType.int) [(0, 8, 11, 13), (0, 8, 14, 17)] ∈ GW := gw7 (List.mem_of_getElem? (i := 185) (by decide +kernel)) rfl
theorem q1333 : Cond.methodLink RL 139 yX9_runScript ∈ GW := gw7 (List.mem_of_getElem? (i := 186) (by decide +kernel)) rfl
theorem q1334 : Cond.instanceMethod yX9_runScript ∈ GW := gw7 (List.mem_of_getElem? (i := 187) (by decide +kernel)) rfl
theorem q1335 : Cond.selects RX9 yX9_runScript yX9_runScript ∈ GW := gw7 (List.mem_of_getElem? (i := 188) (by decide +kernel)) rfl
theorem q1336 : Cond.code yX9_runScript cX9_runScript 3 (some FieldType.int) ∈ GW := gw7 (List.mem_of_getElem? (i := 189) (by decide +kernel)) rfl
theorem q1337 : Cond.methodLink RX9 370 yX6_read ∈ GW := gw7 (List.mem_of_getElem? (i := 190) (by decide +kernel)) rfl
theorem q1338 : Cond.instanceMethod yX6_read ∈ GW := gw7 (List.mem_of_getElem? (i := 191) (by decide +kernel)) rfl
theorem q1339 : Cond.selects RX6 yX6_read yX6_read ∈ GW := gw7 (List.mem_of_getElem? (i := 192) (by decide +kernel)) rfl
theorem q1340 : Cond.code yX6_read cX6_read 2 (some FieldType.int) ∈ GW := gw7 (List.mem_of_getElem? (i := 193) (by decide +kernel)) rfl
theorem q1341 : Cond.methodLink RX6 59 yX6_readCommand ∈ GW := gw7 (List.mem_of_getElem? (i := 194) (by decide +kernel)) rfl
theorem q1342 : Cond.instanceMethod yX6_readCommand ∈ GW := gw7 (List.mem_of_getElem? (i := 196) (by decide +kernel)) rfl
theorem q1343 : Cond.code yX6_readCommand cX6_readCommand 4 (some FieldType.boolean) ∈ GW := gw7 (List.mem_of_getElem? (i := 197) (by decide +kernel)) rfl
theorem q1344 : Cond.methodLink RX6 66 yX6_readForm ∈ GW := gw7 (List.mem_of_getElem? (i := 198) (by decide +kernel)) rfl
theorem q1345 : Cond.instanceMethod yX6_readForm ∈ GW := gw7 (List.mem_of_getElem? (i := 200) (by decide +kernel)) rfl
theorem q1346 : Cond.code yX6_readForm cX6_readForm 4 (some FieldType.boolean) ∈ GW := gw7 (List.mem_of_getElem? (i := 201) (by decide +kernel)) rfl
theorem q1347 : Cond.methodLink RX6 76 yX6_formOf ∈ GW := gw7 (List.mem_of_getElem? (i := 202) (by decide +kernel)) rfl
theorem q1348 : Cond.static yX6_formOf ∈ GW := gw7 (List.mem_of_getElem? (i := 203) (by decide +kernel)) rfl
theorem q1349 : Cond.code yX6_formOf cX6_formOf 1 (some (FieldType.object "java/lang/String")) ∈ GW := gw7 (List.mem_of_getElem? (i := 204) (by decide +kernel)) rfl
theorem q1350 : Cond.methodLink RX6 80 yJ0_length_8abf5 ∈ GW := gw7 (List.mem_of_getElem? (i := 215) (by decide +kernel)) rfl
theorem q1351 : Cond.methodLink RX6 85 yJ0_charAt_5068e ∈ GW := gw7 (List.mem_of_getElem? (i := 216) (by decide +kernel)) rfl
theorem q1352 : Cond.instanceMethod yJ0_charAt_5068e ∈ GW := gw7 (List.mem_of_getElem? (i := 217) (by decide +kernel)) rfl
theorem q1353 : Cond.selects RJ0 yJ0_charAt_5068e yJ0_charAt_5068e ∈ GW := gw7 (List.mem_of_getElem? (i := 218) (by decide +kernel)) rfl
theorem q1354 : Cond.code yJ0_charAt_5068e cJ0_charAt_5068e 2 (some FieldType.char) ∈ GW := gw7 (List.mem_of_getElem? (i := 219) (by decide +kernel)) rfl
theorem q1355 : Cond.methodLink RJ0 492 yJ0_isLatin1_aae02 ∈ GW := gw7 (List.mem_of_getElem? (i := 220) (by decide +kernel)) rfl
theorem q1356 : Cond.instanceMethod yJ0_isLatin1_aae02 ∈ GW := gw7 (List.mem_of_getElem? (i := 221) (by decide +kernel)) rfl
theorem q1357 : Cond.selects RJ0 yJ0_isLatin1_aae02 yJ0_isLatin1_aae02 ∈ GW := gw7 (List.mem_of_getElem? (i := 222) (by decide +kernel)) rfl
theorem q1358 : Cond.code yJ0_isLatin1_aae02 cJ0_isLatin1_aae02 1 (some FieldType.boolean) ∈ GW := gw7 (List.mem_of_getElem? (i := 223) (by decide +kernel)) rfl
theorem q1359 : Cond.methodLink RJ0 495 yJ1_charAt_3b067 ∈ GW := gw7 (List.mem_of_getElem? (i := 224) (by decide +kernel)) rfl
theorem q1360 : Cond.static yJ1_charAt_3b067 ∈ GW := gw7 (List.mem_of_getElem? (i := 225) (by decide +kernel)) rfl
theorem q1361 : Cond.code yJ1_charAt_3b067 cJ1_charAt_3b067 2 (some FieldType.char) ∈ GW := gw7 (List.mem_of_getElem? (i := 226) (by decide +kernel)) rfl
theorem q1362 : Cond.methodLink RJ1 9 yJ0_checkIndex_df160 ∈ GW := gw7 (List.mem_of_getElem? (i := 227) (by decide +kernel)) rfl
theorem q1363 : Cond.methodLink RJ0 498 yJ2_charAt_3b067 ∈ GW := gw7 (List.mem_of_getElem? (i := 228) (by decide +kernel)) rfl
theorem q1364 : Cond.static yJ2_charAt_3b067 ∈ GW := gw7 (List.mem_of_getElem? (i := 229) (by decide +kernel)) rfl
theorem q1365 : Cond.code yJ2_charAt_3b067 cJ2_charAt_3b067 2 (some FieldType.char) ∈ GW := gw7 (List.mem_of_getElem? (i := 230) (by decide +kernel)) rfl
theorem q1366 : Cond.methodLink RX6 89 yX6_readPart ∈ GW := gw7 (List.mem_of_getElem? (i := 231) (by decide +kernel)) rfl
theorem q1367 : Cond.instanceMethod yX6_readPart ∈ GW := gw7 (List.mem_of_getElem? (i := 233) (by decide +kernel)) rfl
theorem q1368 : Cond.code yX6_readPart cX6_readPart 2 (some FieldType.boolean) ∈ GW := gw7 (List.mem_of_getElem? (i := 234) (by decide +kernel)) rfl
theorem q1369 : Cond.methodLink RX6 95 yX6_readNumber ∈ GW := gw7 (List.mem_of_getElem? (i := 235) (by decide +kernel)) rfl
theorem q1370 : Cond.instanceMethod yX6_readNumber ∈ GW := gw7 (List.mem_of_getElem? (i := 237) (by decide +kernel)) rfl
theorem q1371 : Cond.code yX6_readNumber cX6_readNumber 4 (some FieldType.boolean) ∈ GW := gw7 (List.mem_of_getElem? (i := 238) (by decide +kernel)) rfl
theorem q1372 : Cond.methodLink RX6 102 yX6_isDigitHere ∈ GW := gw7 (List.mem_of_getElem? (i := 239) (by decide +kernel)) rfl
theorem q1373 : Cond.instanceMethod yX6_isDigitHere ∈ GW := gw8 (List.mem_of_getElem? (i := 1) (by decide +kernel)) rfl
theorem q1374 : Cond.code yX6_isDigitHere cX6_isDigitHere 1 (some FieldType.boolean) ∈ GW := gw8 (List.mem_of_getElem? (i := 2) (by decide +kernel)) rfl
theorem q1375 : Cond.methodLink RX6 98 yX6_store ∈ GW := gw8 (List.mem_of_getElem? (i := 3) (by decide +kernel)) rfl
theorem q1376 : Cond.instanceMethod yX6_store ∈ GW := gw8 (List.mem_of_getElem? (i := 5) (by decide +kernel)) rfl
theorem q1377 : Cond.code yX6_store cX6_store 2 none ∈ GW := gw8 (List.mem_of_getElem? (i := 6) (by decide +kernel)) rfl
theorem q1378 : Cond.methodLink RX6 62 yX6_readCharacter ∈ GW := gw8 (List.mem_of_getElem? (i := 7) (by decide +kernel)) rfl
theorem q1379 : Cond.instanceMethod yX6_readCharacter ∈ GW := gw8 (List.mem_of_getElem? (i := 9) (by decide +kernel)) rfl
theorem q1380 : Cond.code yX6_readCharacter cX6_readCharacter 2 (some FieldType.boolean) ∈ GW := gw8 (List.mem_of_getElem? (i := 10) (by decide +kernel)) rfl
theorem q1381 : Cond.methodLink RX6 92 yX6_readOptionalDays ∈ GW := gw8 (List.mem_of_getElem? (i := 11) (by decide +kernel)) rfl
theorem q1382 : Cond.instanceMethod yX6_readOptionalDays ∈ GW := gw8 (List.mem_of_getElem? (i := 13) (by decide +kernel)) rfl
theorem q1383 : Cond.code yX6_readOptionalDays cX6_readOptionalDays 1 (some FieldType.boolean) ∈ GW := gw8 (List.mem_of_getElem? (i := 14) (by decide +kernel)) rfl
theorem q1384 : Cond.methodLink RX6 70 yJ9_max_7cf53 ∈ GW := gw8 (List.mem_of_getElem? (i := 15) (by decide +kernel)) rfl
theorem q1385 : Cond.methodLink RX9 373 yX6_clear ∈ GW := gw8 (List.mem_of_getElem? (i := 16) (by decide +kernel)) rfl
theorem q1386 : Cond.instanceMethod yX6_clear ∈ GW := gw8 (List.mem_of_getElem? (i := 17) (by decide +kernel)) rfl
theorem q1387 : Cond.selects RX6 yX6_clear yX6_clear ∈ GW := gw8 (List.mem_of_getElem? (i := 18) (by decide +kernel)) rfl
theorem q1388 : Cond.code yX6_clear cX6_clear 1 none ∈ GW := gw8 (List.mem_of_getElem? (i := 19) (by decide +kernel)) rfl
theorem q1389 : Cond.methodLink RX9 378 yX6_size ∈ GW := gw8 (List.mem_of_getElem? (i := 21) (by decide +kernel)) rfl
theorem q1390 : Cond.instanceMethod yX6_size ∈ GW := gw8 (List.mem_of_getElem? (i := 22) (by decide +kernel)) rfl
theorem q1391 : Cond.selects RX6 yX6_size yX6_size ∈ GW := gw8 (List.mem_of_getElem? (i := 23) (by decide +kernel)) rfl
theorem q1392 : Cond.code yX6_size cX6_size 1 (some FieldType.int) ∈ GW := gw8 (List.mem_of_getElem? (i := 24) (by decide +kernel)) rfl
theorem q1393 : Cond.methodLink RX9 379 yX9_perform ∈ GW := gw8 (List.mem_of_getElem? (i := 25) (by decide +kernel)) rfl
theorem q1394 : Cond.instanceMethod yX9_perform ∈ GW := gw8 (List.mem_of_getElem? (i := 27) (by decide +kernel)) rfl
theorem q1395 : Cond.code yX9_perform cX9_perform 5 (some FieldType.int) ∈ GW := gw8 (List.mem_of_getElem? (i := 28) (by decide +kernel)) rfl
theorem q1396 : Cond.methodLink RX9 387 yX6_argument ∈ GW := gw8 (List.mem_of_getElem? (i := 29) (by decide +kernel)) rfl
theorem q1397 : Cond.instanceMethod yX6_argument ∈ GW := gw8 (List.mem_of_getElem? (i := 30) (by decide +kernel)) rfl
theorem q1398 : Cond.selects RX6 yX6_argument yX6_argument ∈ GW := gw8 (List.mem_of_getElem? (i := 31) (by decide +kernel)) rfl
theorem q1399 : Cond.code yX6_argument cX6_argument 4 (some FieldType.int) ∈ GW := gw8 (List.mem_of_getElem? (i := 32) (by decide +kernel)) rfl
theorem q1400 : Cond.methodLink RX9 390 yX6_kindOf ∈ GW := gw8 (List.mem_of_getElem? (i := 33) (by decide +kernel)) rfl
theorem q1401 : Cond.instanceMethod yX6_kindOf ∈ GW := gw8 (List.mem_of_getElem? (i := 34) (by decide +kernel)) rfl
theorem q1402 : Cond.selects RX6 yX6_kindOf yX6_kindOf ∈ GW := gw8 (List.mem_of_getElem? (i := 35) (by decide +kernel)) rfl
theorem q1403 : Cond.code yX6_kindOf cX6_kindOf 2 (some FieldType.int) ∈ GW := gw8 (List.mem_of_getElem? (i := 36) (by decide +kernel)) rfl
theorem q1404 : Cond.methodLink RX9 382 yX3_revert ∈ GW := gw8 (List.mem_of_getElem? (i := 37) (by decide +kernel)) rfl
theorem q1405 : Cond.instanceMethod yX3_revert ∈ GW := gw8 (List.mem_of_getElem? (i := 38) (by decide +kernel)) rfl
theorem q1406 : Cond.selects RX3 yX3_revert yX3_revert ∈ GW := gw8 (List.mem_of_getElem? (i := 39) (by decide +kernel)) rfl
theorem q1407 : Cond.code yX3_revert cX3_revert 3 none ∈ GW := gw8 (List.mem_of_getElem? (i := 40) (by decide +kernel)) rfl
theorem q1408 : Cond.methodLink RL 327 yL_errorPosition ∈ GW := gw8 (List.mem_of_getElem? (i := 42) (by decide +kernel)) rfl
theorem q1409 : Cond.static yL_errorPosition ∈ GW := gw8 (List.mem_of_getElem? (i := 43) (by decide +kernel)) rfl
theorem q1410 : Cond.codeWith yL_errorPosition cL_errorPosition 3 (some FieldType.int) [(0, 8, 11, 34)] ∈ GW := gw8 (List.mem_of_getElem? (i := 44) (by decide +kernel)) rfl
theorem q1411 : Cond.methodLink RL 143 yX9_errorPosition ∈ GW := gw8 (List.mem_of_getElem? (i := 45) (by decide +kernel)) rfl
theorem q1412 : Cond.instanceMethod yX9_errorPosition ∈ GW := gw8 (List.mem_of_getElem? (i := 46) (by decide +kernel)) rfl
theorem q1413 : Cond.selects RX9 yX9_errorPosition yX9_errorPosition ∈ GW := gw8 (List.mem_of_getElem? (i := 47) (by decide +kernel)) rfl
theorem q1414 : Cond.code yX9_errorPosition cX9_errorPosition 1 (some FieldType.int) ∈ GW := gw8 (List.mem_of_getElem? (i := 48) (by decide +kernel)) rfl
theorem q1415 : Cond.methodLink RL 330 yL_failedCommand ∈ GW := gw8 (List.mem_of_getElem? (i := 50) (by decide +kernel)) rfl
theorem q1416 : Cond.static yL_failedCommand ∈ GW := gw8 (List.mem_of_getElem? (i := 51) (by decide +kernel)) rfl
theorem q1417 : Cond.codeWith yL_failedCommand cL_failedCommand 3 (some FieldType.int) [(0, 8, 11, 34)] ∈ GW := gw8 (List.mem_of_getElem? (i := 52) (by decide +kernel)) rfl
theorem q1418 : Cond.methodLink RL 146 yX9_failedCommand ∈ GW := gw8 (List.mem_of_getElem? (i := 53) (by decide +kernel)) rfl
theorem q1419 : Cond.instanceMethod yX9_failedCommand ∈ GW := gw8 (List.mem_of_getElem? (i := 54) (by decide +kernel)) rfl
theorem q1420 : Cond.selects RX9 yX9_failedCommand yX9_failedCommand ∈ GW := gw8 (List.mem_of_getElem? (i := 55) (by decide +kernel)) rfl
theorem q1421 : Cond.code yX9_failedCommand cX9_failedCommand 1 (some FieldType.int) ∈ GW := gw8 (List.mem_of_getElem? (i := 56) (by decide +kernel)) rfl
theorem q1422 : Cond.methodLink RL 333 yL_undo ∈ GW := gw8 (List.mem_of_getElem? (i := 58) (by decide +kernel)) rfl
theorem q1423 : Cond.static yL_undo ∈ GW := gw8 (List.mem_of_getElem? (i := 59) (by decide +kernel)) rfl
theorem q1424 : Cond.codeWith yL_undo cL_undo 3 (some FieldType.int) [(0, 8, 11, 17)] ∈ GW := gw8 (List.mem_of_getElem? (i := 60) (by decide +kernel)) rfl
theorem q1425 : Cond.methodLink RL 149 yX9_undo ∈ GW := gw8 (List.mem_of_getElem? (i := 61) (by decide +kernel)) rfl
theorem q1426 : Cond.instanceMethod yX9_undo ∈ GW := gw8 (List.mem_of_getElem? (i := 62) (by decide +kernel)) rfl
theorem q1427 : Cond.selects RX9 yX9_undo yX9_undo ∈ GW := gw8 (List.mem_of_getElem? (i := 63) (by decide +kernel)) rfl
theorem q1428 : Cond.code yX9_undo cX9_undo 1 (some FieldType.int) ∈ GW := gw8 (List.mem_of_getElem? (i := 64) (by decide +kernel)) rfl
theorem q1429 : Cond.methodLink RX9 397 yX3_size ∈ GW := gw8 (List.mem_of_getElem? (i := 65) (by decide +kernel)) rfl
theorem q1430 : Cond.instanceMethod yX3_size ∈ GW := gw8 (List.mem_of_getElem? (i := 66) (by decide +kernel)) rfl
theorem q1431 : Cond.selects RX3 yX3_size yX3_size ∈ GW := gw8 (List.mem_of_getElem? (i := 67) (by decide +kernel)) rfl
theorem q1432 : Cond.code yX3_size cX3_size 1 (some FieldType.int) ∈ GW := gw8 (List.mem_of_getElem? (i := 68) (by decide +kernel)) rfl
theorem q1433 : Cond.methodLink RX9 400 yX3_back ∈ GW := gw8 (List.mem_of_getElem? (i := 70) (by decide +kernel)) rfl
theorem q1434 : Cond.instanceMethod yX3_back ∈ GW := gw8 (List.mem_of_getElem? (i := 71) (by decide +kernel)) rfl
theorem q1435 : Cond.selects RX3 yX3_back yX3_back ∈ GW := gw8 (List.mem_of_getElem? (i := 72) (by decide +kernel)) rfl
theorem q1436 : Cond.code yX3_back cX3_back 2 none ∈ GW := gw8 (List.mem_of_getElem? (i := 73) (by decide +kernel)) rfl
theorem q1437 : Cond.methodLink RX3 39 yX3_revert ∈ GW := gw8 (List.mem_of_getElem? (i := 74) (by decide +kernel)) rfl
theorem q1438 : Cond.methodLink RL 340 yL_restore ∈ GW := gw8 (List.mem_of_getElem? (i := 75) (by decide +kernel)) rfl
theorem q1439 : Cond.static yL_restore ∈ GW := gw8 (List.mem_of_getElem? (i := 76) (by decide +kernel)) rfl
theorem q1440 : Cond.codeWith yL_restore cL_restore 3 (some FieldType.int) [(0, 8, 11, 17)] ∈ GW := gw8 (List.mem_of_getElem? (i := 77) (by decide +kernel)) rfl
theorem q1441 : Cond.methodLink RL 152 yX9_restore ∈ GW := gw8 (List.mem_of_getElem? (i := 78) (by decide +kernel)) rfl
theorem q1442 : Cond.instanceMethod yX9_restore ∈ GW := gw8 (List.mem_of_getElem? (i := 79) (by decide +kernel)) rfl
theorem q1443 : Cond.selects RX9 yX9_restore yX9_restore ∈ GW := gw8 (List.mem_of_getElem? (i := 80) (by decide +kernel)) rfl
theorem q1444 : Cond.code yX9_restore cX9_restore 1 (some FieldType.int) ∈ GW := gw8 (List.mem_of_getElem? (i := 81) (by decide +kernel)) rfl
theorem q1445 : Cond.methodLink RX9 408 yX3_forget ∈ GW := gw8 (List.mem_of_getElem? (i := 83) (by decide +kernel)) rfl
theorem q1446 : Cond.instanceMethod yX3_forget ∈ GW := gw8 (List.mem_of_getElem? (i := 84) (by decide +kernel)) rfl
theorem q1447 : Cond.selects RX3 yX3_forget yX3_forget ∈ GW := gw8 (List.mem_of_getElem? (i := 85) (by decide +kernel)) rfl
theorem q1448 : Cond.code yX3_forget cX3_forget 1 none ∈ GW := gw8 (List.mem_of_getElem? (i := 86) (by decide +kernel)) rfl
theorem q1449 : Cond.classLink RL 156 RX10 ∈ GW := gw8 (List.mem_of_getElem? (i := 87) (by decide +kernel)) rfl
theorem q1450 : Cond.instantiable RX10 23 ∈ GW := gw8 (List.mem_of_getElem? (i := 88) (by decide +kernel)) rfl
theorem q1451 : Cond.methodLink RL 158 yX10_init ∈ GW := gw8 (List.mem_of_getElem? (i := 89) (by decide +kernel)) rfl
theorem q1452 : Cond.instanceMethod yX10_init ∈ GW := gw8 (List.mem_of_getElem? (i := 90) (by decide +kernel)) rfl
theorem q1453 : Cond.code yX10_init cX10_init 1 none ∈ GW := gw8 (List.mem_of_getElem? (i := 91) (by decide +kernel)) rfl
theorem q1454 : Cond.methodLink RX10 1 ⟨"java/lang/Object", "<init>", "()V"⟩ ∈ GW := gw8 (List.mem_of_getElem? (i := 92) (by decide +kernel)) rfl
theorem q1455 : Cond.fieldLink RX10 9 "HammerDepotModel" "m" "[I" ∈ GW := gw8 (List.mem_of_getElem? (i := 93) (by decide +kernel)) rfl
theorem q1456 : Cond.fieldLink RX10 13 "HammerDepotModel" "aside" "[I" ∈ GW := gw8 (List.mem_of_getElem? (i := 94) (by decide +kernel)) rfl
theorem q1457 : Cond.fieldLink RX10 16 "HammerDepotModel" "saved" "[I" ∈ GW := gw8 (List.mem_of_getElem? (i := 95) (by decide +kernel)) rfl
theorem q1458 : Cond.fieldLink RX10 315 "HammerDepotModel" "isSaved" "Z" ∈ GW := gw8 (List.mem_of_getElem? (i := 96) (by decide +kernel)) rfl
theorem q1459 : Cond.fieldLink RX10 19 "HammerDepotModel" "past" "[I" ∈ GW := gw8 (List.mem_of_getElem? (i := 97) (by decide +kernel)) rfl
theorem q1460 : Cond.fieldLink RX10 57 "HammerDepotModel" "changes" "I" ∈ GW := gw8 (List.mem_of_getElem? (i := 98) (by decide +kernel)) rfl
theorem q1461 : Cond.fieldLink RX10 22 "HammerDepotModel" "errorAt" "I" ∈ GW := gw8 (List.mem_of_getElem? (i := 99) (by decide +kernel)) rfl
theorem q1462 : Cond.fieldLink RX10 26 "HammerDepotModel" "failed" "I" ∈ GW := gw8 (List.mem_of_getElem? (i := 100) (by decide +kernel)) rfl
theorem q1463 : Cond.fieldLink RX10 54 "HammerDepotModel" "thrown" "I" ∈ GW := gw8 (List.mem_of_getElem? (i := 101) (by decide +kernel)) rfl
theorem q1464 : Cond.fieldLink RX10 29 "HammerDepotModel" "input" "[I" ∈ GW := gw8 (List.mem_of_getElem? (i := 102) (by decide +kernel)) rfl
theorem q1465 : Cond.fieldLink RX10 262 "HammerDepotModel" "inputMany" "I" ∈ GW := gw8 (List.mem_of_getElem? (i := 103) (by decide +kernel)) rfl
theorem q1466 : Cond.fieldLink RX10 32 "HammerDepotModel" "fitting" "[I" ∈ GW := gw8 (List.mem_of_getElem? (i := 104) (by decide +kernel)) rfl
theorem q1467 : Cond.fieldLink RX10 35 "HammerDepotModel" "given" "[I" ∈ GW := gw8 (List.mem_of_getElem? (i := 105) (by decide +kernel)) rfl
theorem q1468 : Cond.fieldLink RX10 38 "HammerDepotModel" "pairs" "[I" ∈ GW := gw8 (List.mem_of_getElem? (i := 106) (by decide +kernel)) rfl
theorem q1469 : Cond.fieldLink RX10 41 "HammerDepotModel" "line" "[I" ∈ GW := gw8 (List.mem_of_getElem? (i := 107) (by decide +kernel)) rfl
theorem q1470 : Cond.fieldLink RX10 246 "HammerDepotModel" "lineMany" "I" ∈ GW := gw8 (List.mem_of_getElem? (i := 108) (by decide +kernel)) rfl
theorem q1471 : Cond.fieldLink RX10 44 "HammerDepotModel" "letters" "[C" ∈ GW := gw8 (List.mem_of_getElem? (i := 109) (by decide +kernel)) rfl
theorem q1472 : Cond.fieldLink RX10 48 "HammerDepotModel" "begins0" "[I" ∈ GW := gw8 (List.mem_of_getElem? (i := 110) (by decide +kernel)) rfl
theorem q1473 : Cond.fieldLink RX10 51 "HammerDepotModel" "commands" "[I" ∈ GW := gw8 (List.mem_of_getElem? (i := 111) (by decide +kernel)) rfl
theorem q1474 : Cond.fieldLink RX10 300 "HammerDepotModel" "commandMany" "I" ∈ GW := gw8 (List.mem_of_getElem? (i := 112) (by decide +kernel)) rfl
theorem q1475 : Cond.fieldLink RX10 265 "HammerDepotModel" "place0" "I" ∈ GW := gw8 (List.mem_of_getElem? (i := 113) (by decide +kernel)) rfl
theorem q1476 : Cond.fieldLink RX10 268 "HammerDepotModel" "size0" "I" ∈ GW := gw8 (List.mem_of_getElem? (i := 114) (by decide +kernel)) rfl
theorem q1477 : Cond.fieldLink RX10 271 "HammerDepotModel" "isWrong" "Z" ∈ GW := gw8 (List.mem_of_getElem? (i := 115) (by decide +kernel)) rfl
theorem q1478 : Cond.methodLink RL 165 yX10_thrown ∈ GW := gw8 (List.mem_of_getElem? (i := 163) (by decide +kernel)) rfl
theorem q1479 : Cond.instanceMethod yX10_thrown ∈ GW := gw8 (List.mem_of_getElem? (i := 164) (by decide +kernel)) rfl
theorem q1480 : Cond.selects RX10 yX10_thrown yX10_thrown ∈ GW := gw8 (List.mem_of_getElem? (i := 165) (by decide +kernel)) rfl
theorem q1481 : Cond.code yX10_thrown cX10_thrown 1 (some FieldType.int) ∈ GW := gw8 (List.mem_of_getElem? (i := 166) (by decide +kernel)) rfl
theorem q1482 : Cond.methodLink RL 164 yX10_addHammer ∈ GW := gw8 (List.mem_of_getElem? (i := 167) (by decide +kernel)) rfl
theorem q1483 : Cond.instanceMethod yX10_addHammer ∈ GW := gw8 (List.mem_of_getElem? (i := 168) (by decide +kernel)) rfl
theorem q1484 : Cond.selects RX10 yX10_addHammer yX10_addHammer ∈ GW := gw8 (List.mem_of_getElem? (i := 169) (by decide +kernel)) rfl
theorem q1485 : Cond.code yX10_addHammer cX10_addHammer 3 (some FieldType.int) ∈ GW := gw8 (List.mem_of_getElem? (i := 170) (by decide +kernel)) rfl
theorem q1486 : Cond.methodLink RX10 129 yX10_starts ∈ GW := gw8 (List.mem_of_getElem? (i := 171) (by decide +kernel)) rfl
theorem q1487 : Cond.instanceMethod yX10_starts ∈ GW := gw8 (List.mem_of_getElem? (i := 173) (by decide +kernel)) rfl
theorem q1488 : Cond.code yX10_starts cX10_starts 2 none ∈ GW := gw8 (List.mem_of_getElem? (i := 174) (by decide +kernel)) rfl
theorem q1489 : Cond.methodLink RX10 132 yX10_hammerIt ∈ GW := gw8 (List.mem_of_getElem? (i := 175) (by decide +kernel)) rfl
theorem q1490 : Cond.instanceMethod yX10_hammerIt ∈ GW := gw8 (List.mem_of_getElem? (i := 177) (by decide +kernel)) rfl
theorem q1491 : Cond.code yX10_hammerIt cX10_hammerIt 5 (some FieldType.int) ∈ GW := gw8 (List.mem_of_getElem? (i := 178) (by decide +kernel)) rfl
theorem q1492 : Cond.constantLong RX10 118 (60) ∈ GW := gw8 (List.mem_of_getElem? (i := 179) (by decide +kernel)) rfl
theorem q1493 : Cond.methodLink RX10 60 yX10_in ∈ GW := gw8 (List.mem_of_getElem? (i := 180) (by decide +kernel)) rfl
theorem q1494 : Cond.static yX10_in ∈ GW := gw8 (List.mem_of_getElem? (i := 181) (by decide +kernel)) rfl
theorem q1495 : Cond.code yX10_in cX10_in 6 (some FieldType.boolean) ∈ GW := gw8 (List.mem_of_getElem? (i := 182) (by decide +kernel)) rfl
theorem q1496 : Cond.methodLink RX10 120 yX10_throwing ∈ GW := gw8 (List.mem_of_getElem? (i := 183) (by decide +kernel)) rfl
theorem q1497 : Cond.instanceMethod yX10_throwing ∈ GW := gw8 (List.mem_of_getElem? (i := 185) (by decide +kernel)) rfl
theorem q1498 : Cond.code yX10_throwing cX10_throwing 2 (some FieldType.int) ∈ GW := gw8 (List.mem_of_getElem? (i := 186) (by decide +kernel)) rfl
theorem q1499 : Cond.methodLink RX10 123 yX10_isRack ∈ GW := gw8 (List.mem_of_getElem? (i := 187) (by decide +kernel)) rfl
theorem q1500 : Cond.static yX10_isRack ∈ GW := gw8 (List.mem_of_getElem? (i := 188) (by decide +kernel)) rfl
theorem q1501 : Cond.code yX10_isRack cX10_isRack 1 (some FieldType.boolean) ∈ GW := gw8 (List.mem_of_getElem? (i := 189) (by decide +kernel)) rfl
theorem q1502 : Cond.constantLong RX10 64 (2) ∈ GW := gw8 (List.mem_of_getElem? (i := 190) (by decide +kernel)) rfl
theorem q1503 : Cond.methodLink RX10 126 yX10_freePlace ∈ GW := gw8 (List.mem_of_getElem? (i := 191) (by decide +kernel)) rfl
theorem q1504 : Cond.instanceMethod yX10_freePlace ∈ GW := gw8 (List.mem_of_getElem? (i := 193) (by decide +kernel)) rfl
theorem q1505 : Cond.code yX10_freePlace cX10_freePlace 3 (some FieldType.int) ∈ GW := gw8 (List.mem_of_getElem? (i := 194) (by decide +kernel)) rfl
theorem q1506 : Cond.methodLink RX10 72 yX10_standing ∈ GW := gw8 (List.mem_of_getElem? (i := 195) (by decide +kernel)) rfl
theorem q1507 : Cond.instanceMethod yX10_standing ∈ GW := gw8 (List.mem_of_getElem? (i := 197) (by decide +kernel)) rfl
theorem q1508 : Cond.code yX10_standing cX10_standing 4 (some FieldType.int) ∈ GW := gw8 (List.mem_of_getElem? (i := 198) (by decide +kernel)) rfl
theorem q1509 : Cond.methodLink RX10 68 yX10_hammerOf ∈ GW := gw8 (List.mem_of_getElem? (i := 199) (by decide +kernel)) rfl
theorem q1510 : Cond.static yX10_hammerOf ∈ GW := gw8 (List.mem_of_getElem? (i := 200) (by decide +kernel)) rfl
theorem q1511 : Cond.code yX10_hammerOf cX10_hammerOf 1 (some FieldType.int) ∈ GW := gw8 (List.mem_of_getElem? (i := 201) (by decide +kernel)) rfl
theorem q1512 : Cond.methodLink RX10 135 yX10_changed ∈ GW := gw8 (List.mem_of_getElem? (i := 202) (by decide +kernel)) rfl
theorem q1513 : Cond.instanceMethod yX10_changed ∈ GW := gw8 (List.mem_of_getElem? (i := 204) (by decide +kernel)) rfl
theorem q1514 : Cond.code yX10_changed cX10_changed 3 (some FieldType.int) ∈ GW := gw8 (List.mem_of_getElem? (i := 205) (by decide +kernel)) rfl
theorem q1515 : Cond.methodLink RL 170 yX10_moveHammer ∈ GW := gw8 (List.mem_of_getElem? (i := 206) (by decide +kernel)) rfl
theorem q1516 : Cond.instanceMethod yX10_moveHammer ∈ GW := gw8 (List.mem_of_getElem? (i := 207) (by decide +kernel)) rfl
theorem q1517 : Cond.selects RX10 yX10_moveHammer yX10_moveHammer ∈ GW := gw8 (List.mem_of_getElem? (i := 208) (by decide +kernel)) rfl
theorem q1518 : Cond.code yX10_moveHammer cX10_moveHammer 3 (some FieldType.int) ∈ GW := gw8 (List.mem_of_getElem? (i := 209) (by decide +kernel)) rfl
theorem q1519 : Cond.methodLink RX10 141 yX10_moveIt ∈ GW := gw8 (List.mem_of_getElem? (i := 210) (by decide +kernel)) rfl
theorem q1520 : Cond.instanceMethod yX10_moveIt ∈ GW := gw8 (List.mem_of_getElem? (i := 212) (by decide +kernel)) rfl
theorem q1521 : Cond.code yX10_moveIt cX10_moveIt 5 (some FieldType.int) ∈ GW := gw8 (List.mem_of_getElem? (i := 213) (by decide +kernel)) rfl
theorem q1522 : Cond.methodLink RX10 138 yX10_isHammer ∈ GW := gw8 (List.mem_of_getElem? (i := 214) (by decide +kernel)) rfl
theorem q1523 : Cond.instanceMethod yX10_isHammer ∈ GW := gw8 (List.mem_of_getElem? (i := 216) (by decide +kernel)) rfl
theorem q1524 : Cond.code yX10_isHammer cX10_isHammer 2 (some FieldType.boolean) ∈ GW := gw8 (List.mem_of_getElem? (i := 217) (by decide +kernel)) rfl
theorem q1525 : Cond.methodLink RL 174 yX10_swapPlaces ∈ GW := gw8 (List.mem_of_getElem? (i := 218) (by decide +kernel)) rfl
theorem q1526 : Cond.instanceMethod yX10_swapPlaces ∈ GW := gw8 (List.mem_of_getElem? (i := 219) (by decide +kernel)) rfl
theorem q1527 : Cond.selects RX10 yX10_swapPlaces yX10_swapPlaces ∈ GW := gw8 (List.mem_of_getElem? (i := 220) (by decide +kernel)) rfl
theorem q1528 : Cond.code yX10_swapPlaces cX10_swapPlaces 4 (some FieldType.int) ∈ GW := gw8 (List.mem_of_getElem? (i := 221) (by decide +kernel)) rfl
theorem q1529 : Cond.methodLink RX10 150 yX10_swapIt ∈ GW := gw8 (List.mem_of_getElem? (i := 222) (by decide +kernel)) rfl
theorem q1530 : Cond.instanceMethod yX10_swapIt ∈ GW := gw8 (List.mem_of_getElem? (i := 224) (by decide +kernel)) rfl
theorem q1531 : Cond.code yX10_swapIt cX10_swapIt 6 (some FieldType.int) ∈ GW := gw8 (List.mem_of_getElem? (i := 225) (by decide +kernel)) rfl
theorem q1532 : Cond.methodLink RX10 144 yX10_isPlace ∈ GW := gw8 (List.mem_of_getElem? (i := 226) (by decide +kernel)) rfl
theorem q1533 : Cond.static yX10_isPlace ∈ GW := gw8 (List.mem_of_getElem? (i := 227) (by decide +kernel)) rfl
theorem q1534 : Cond.code yX10_isPlace cX10_isPlace 1 (some FieldType.boolean) ∈ GW := gw8 (List.mem_of_getElem? (i := 228) (by decide +kernel)) rfl
theorem q1535 : Cond.constantLong RX10 66 (5) ∈ GW := gw8 (List.mem_of_getElem? (i := 229) (by decide +kernel)) rfl
theorem q1536 : Cond.methodLink RX10 147 yX10_swaps ∈ GW := gw8 (List.mem_of_getElem? (i := 230) (by decide +kernel)) rfl
theorem q1537 : Cond.instanceMethod yX10_swaps ∈ GW := gw8 (List.mem_of_getElem? (i := 232) (by decide +kernel)) rfl
theorem q1538 : Cond.code yX10_swaps cX10_swaps 5 (some FieldType.int) ∈ GW := gw8 (List.mem_of_getElem? (i := 233) (by decide +kernel)) rfl
theorem q1539 : Cond.methodLink RX10 76 yX10_due ∈ GW := gw8 (List.mem_of_getElem? (i := 234) (by decide +kernel)) rfl
theorem q1540 : Cond.instanceMethod yX10_due ∈ GW := gw8 (List.mem_of_getElem? (i := 236) (by decide +kernel)) rfl
theorem q1541 : Cond.code yX10_due cX10_due 6 (some FieldType.int) ∈ GW := gw8 (List.mem_of_getElem? (i := 237) (by decide +kernel)) rfl
theorem q1542 : Cond.methodLink RX10 79 yX10_beginsCycle ∈ GW := gw8 (List.mem_of_getElem? (i := 238) (by decide +kernel)) rfl
theorem q1543 : Cond.instanceMethod yX10_beginsCycle ∈ GW := gw9 (List.mem_of_getElem? (i := 0) (by decide +kernel)) rfl
theorem q1544 : Cond.code yX10_beginsCycle cX10_beginsCycle 5 (some FieldType.boolean) ∈ GW := gw9 (List.mem_of_getElem? (i := 1) (by decide +kernel)) rfl
theorem q1545 : Cond.methodLink RL 178 yX10_request ∈ GW := gw9 (List.mem_of_getElem? (i := 2) (by decide +kernel)) rfl
theorem q1546 : Cond.instanceMethod yX10_request ∈ GW := gw9 (List.mem_of_getElem? (i := 3) (by decide +kernel)) rfl
theorem q1547 : Cond.selects RX10 yX10_request yX10_request ∈ GW := gw9 (List.mem_of_getElem? (i := 4) (by decide +kernel)) rfl
theorem q1548 : Cond.code yX10_request cX10_request 6 (some FieldType.int) ∈ GW := gw9 (List.mem_of_getElem? (i := 5) (by decide +kernel)) rfl
theorem q1549 : Cond.methodLink RX10 158 yX10_askIt ∈ GW := gw9 (List.mem_of_getElem? (i := 6) (by decide +kernel)) rfl
theorem q1550 : Cond.instanceMethod yX10_askIt ∈ GW := gw9 (List.mem_of_getElem? (i := 8) (by decide +kernel)) rfl
theorem q1551 : Cond.code yX10_askIt cX10_askIt 8 (some FieldType.int) ∈ GW := gw9 (List.mem_of_getElem? (i := 9) (by decide +kernel)) rfl
theorem q1552 : Cond.constantLong RX10 154 (9) ∈ GW := gw9 (List.mem_of_getElem? (i := 10) (by decide +kernel)) rfl
theorem q1553 : Cond.constantLong RX10 156 (12) ∈ GW := gw9 (List.mem_of_getElem? (i := 11) (by decide +kernel)) rfl
theorem q1554 : Cond.methodLink RX10 83 yX10_requestOf ∈ GW := gw9 (List.mem_of_getElem? (i := 12) (by decide +kernel)) rfl
theorem q1555 : Cond.static yX10_requestOf ∈ GW := gw9 (List.mem_of_getElem? (i := 13) (by decide +kernel)) rfl
theorem q1556 : Cond.code yX10_requestOf cX10_requestOf 1 (some FieldType.int) ∈ GW := gw9 (List.mem_of_getElem? (i := 14) (by decide +kernel)) rfl
theorem q1557 : Cond.methodLink RL 182 yX10_cancelRequest ∈ GW := gw9 (List.mem_of_getElem? (i := 15) (by decide +kernel)) rfl
theorem q1558 : Cond.instanceMethod yX10_cancelRequest ∈ GW := gw9 (List.mem_of_getElem? (i := 16) (by decide +kernel)) rfl
theorem q1559 : Cond.selects RX10 yX10_cancelRequest yX10_cancelRequest ∈ GW := gw9 (List.mem_of_getElem? (i := 17) (by decide +kernel)) rfl
theorem q1560 : Cond.code yX10_cancelRequest cX10_cancelRequest 2 (some FieldType.int) ∈ GW := gw9 (List.mem_of_getElem? (i := 18) (by decide +kernel)) rfl
theorem q1561 : Cond.methodLink RX10 165 yX10_dropIt ∈ GW := gw9 (List.mem_of_getElem? (i := 19) (by decide +kernel)) rfl
theorem q1562 : Cond.instanceMethod yX10_dropIt ∈ GW := gw9 (List.mem_of_getElem? (i := 21) (by decide +kernel)) rfl
theorem q1563 : Cond.code yX10_dropIt cX10_dropIt 3 (some FieldType.int) ∈ GW := gw9 (List.mem_of_getElem? (i := 22) (by decide +kernel)) rfl
theorem q1564 : Cond.methodLink RX10 162 yX10_find ∈ GW := gw9 (List.mem_of_getElem? (i := 23) (by decide +kernel)) rfl
theorem q1565 : Cond.instanceMethod yX10_find ∈ GW := gw9 (List.mem_of_getElem? (i := 25) (by decide +kernel)) rfl
theorem q1566 : Cond.code yX10_find cX10_find 3 (some FieldType.int) ∈ GW := gw9 (List.mem_of_getElem? (i := 26) (by decide +kernel)) rfl
theorem q1567 : Cond.methodLink RX10 102 yX10_dropsRequest ∈ GW := gw9 (List.mem_of_getElem? (i := 27) (by decide +kernel)) rfl
theorem q1568 : Cond.instanceMethod yX10_dropsRequest ∈ GW := gw9 (List.mem_of_getElem? (i := 29) (by decide +kernel)) rfl
theorem q1569 : Cond.code yX10_dropsRequest cX10_dropsRequest 3 none ∈ GW := gw9 (List.mem_of_getElem? (i := 30) (by decide +kernel)) rfl
theorem q1570 : Cond.methodLink RL 185 yX10_grant ∈ GW := gw9 (List.mem_of_getElem? (i := 31) (by decide +kernel)) rfl
theorem q1571 : Cond.instanceMethod yX10_grant ∈ GW := gw9 (List.mem_of_getElem? (i := 32) (by decide +kernel)) rfl
theorem q1572 : Cond.selects RX10 yX10_grant yX10_grant ∈ GW := gw9 (List.mem_of_getElem? (i := 33) (by decide +kernel)) rfl
theorem q1573 : Cond.code yX10_grant cX10_grant 2 (some FieldType.int) ∈ GW := gw9 (List.mem_of_getElem? (i := 34) (by decide +kernel)) rfl
theorem q1574 : Cond.methodLink RX10 175 yX10_grantIt ∈ GW := gw9 (List.mem_of_getElem? (i := 35) (by decide +kernel)) rfl
theorem q1575 : Cond.instanceMethod yX10_grantIt ∈ GW := gw9 (List.mem_of_getElem? (i := 37) (by decide +kernel)) rfl
theorem q1576 : Cond.code yX10_grantIt cX10_grantIt 4 (some FieldType.int) ∈ GW := gw9 (List.mem_of_getElem? (i := 38) (by decide +kernel)) rfl
theorem q1577 : Cond.methodLink RX10 168 yX10_best ∈ GW := gw9 (List.mem_of_getElem? (i := 39) (by decide +kernel)) rfl
theorem q1578 : Cond.instanceMethod yX10_best ∈ GW := gw9 (List.mem_of_getElem? (i := 41) (by decide +kernel)) rfl
theorem q1579 : Cond.code yX10_best cX10_best 6 (some FieldType.int) ∈ GW := gw9 (List.mem_of_getElem? (i := 42) (by decide +kernel)) rfl
theorem q1580 : Cond.methodLink RX10 98 yX10_may ∈ GW := gw9 (List.mem_of_getElem? (i := 43) (by decide +kernel)) rfl
theorem q1581 : Cond.instanceMethod yX10_may ∈ GW := gw9 (List.mem_of_getElem? (i := 45) (by decide +kernel)) rfl
theorem q1582 : Cond.code yX10_may cX10_may 7 (some FieldType.boolean) ∈ GW := gw9 (List.mem_of_getElem? (i := 46) (by decide +kernel)) rfl
theorem q1583 : Cond.methodLink RX10 89 yJ9_abs_0f7a4 ∈ GW := gw9 (List.mem_of_getElem? (i := 47) (by decide +kernel)) rfl
theorem q1584 : Cond.methodLink RX10 94 yX10_isFree ∈ GW := gw9 (List.mem_of_getElem? (i := 48) (by decide +kernel)) rfl
theorem q1585 : Cond.instanceMethod yX10_isFree ∈ GW := gw9 (List.mem_of_getElem? (i := 50) (by decide +kernel)) rfl
theorem q1586 : Cond.code yX10_isFree cX10_isFree 7 (some FieldType.boolean) ∈ GW := gw9 (List.mem_of_getElem? (i := 51) (by decide +kernel)) rfl
theorem q1587 : Cond.methodLink RX10 86 yX10_bookingOf ∈ GW := gw9 (List.mem_of_getElem? (i := 52) (by decide +kernel)) rfl
theorem q1588 : Cond.static yX10_bookingOf ∈ GW := gw9 (List.mem_of_getElem? (i := 53) (by decide +kernel)) rfl
theorem q1589 : Cond.code yX10_bookingOf cX10_bookingOf 1 (some FieldType.int) ∈ GW := gw9 (List.mem_of_getElem? (i := 54) (by decide +kernel)) rfl
theorem q1590 : Cond.methodLink RX10 171 yX10_books ∈ GW := gw9 (List.mem_of_getElem? (i := 55) (by decide +kernel)) rfl
theorem q1591 : Cond.instanceMethod yX10_books ∈ GW := gw9 (List.mem_of_getElem? (i := 57) (by decide +kernel)) rfl
theorem q1592 : Cond.code yX10_books cX10_books 5 none ∈ GW := gw9 (List.mem_of_getElem? (i := 58) (by decide +kernel)) rfl
theorem q1593 : Cond.methodLink RL 189 yX10_grantMost ∈ GW := gw9 (List.mem_of_getElem? (i := 59) (by decide +kernel)) rfl
theorem q1594 : Cond.instanceMethod yX10_grantMost ∈ GW := gw9 (List.mem_of_getElem? (i := 60) (by decide +kernel)) rfl
theorem q1595 : Cond.selects RX10 yX10_grantMost yX10_grantMost ∈ GW := gw9 (List.mem_of_getElem? (i := 61) (by decide +kernel)) rfl
theorem q1596 : Cond.code yX10_grantMost cX10_grantMost 1 (some FieldType.int) ∈ GW := gw9 (List.mem_of_getElem? (i := 62) (by decide +kernel)) rfl
theorem q1597 : Cond.methodLink RX10 185 yX10_mostIt ∈ GW := gw9 (List.mem_of_getElem? (i := 63) (by decide +kernel)) rfl
theorem q1598 : Cond.instanceMethod yX10_mostIt ∈ GW := gw9 (List.mem_of_getElem? (i := 65) (by decide +kernel)) rfl
theorem q1599 : Cond.code yX10_mostIt cX10_mostIt 9 (some FieldType.int) ∈ GW := gw9 (List.mem_of_getElem? (i := 66) (by decide +kernel)) rfl
theorem q1600 : Cond.methodLink RX10 178 yX10_mostNow ∈ GW := gw9 (List.mem_of_getElem? (i := 67) (by decide +kernel)) rfl
theorem q1601 : Cond.instanceMethod yX10_mostNow ∈ GW := gw9 (List.mem_of_getElem? (i := 69) (by decide +kernel)) rfl
theorem q1602 : Cond.code yX10_mostNow cX10_mostNow 1 (some FieldType.int) ∈ GW := gw9 (List.mem_of_getElem? (i := 70) (by decide +kernel)) rfl
theorem q1603 : Cond.methodLink RX10 112 yX10_worksFitting ∈ GW := gw9 (List.mem_of_getElem? (i := 71) (by decide +kernel)) rfl
theorem q1604 : Cond.instanceMethod yX10_worksFitting ∈ GW := gw9 (List.mem_of_getElem? (i := 73) (by decide +kernel)) rfl
theorem q1605 : Cond.code yX10_worksFitting cX10_worksFitting 3 none ∈ GW := gw9 (List.mem_of_getElem? (i := 74) (by decide +kernel)) rfl
theorem q1606 : Cond.methodLink RX10 115 yX10_most ∈ GW := gw9 (List.mem_of_getElem? (i := 75) (by decide +kernel)) rfl
theorem q1607 : Cond.instanceMethod yX10_most ∈ GW := gw9 (List.mem_of_getElem? (i := 77) (by decide +kernel)) rfl
theorem q1608 : Cond.code yX10_most cX10_most 7 (some FieldType.int) ∈ GW := gw9 (List.mem_of_getElem? (i := 78) (by decide +kernel)) rfl
theorem q1609 : Cond.methodLink RX10 106 yX10_ones ∈ GW := gw9 (List.mem_of_getElem? (i := 79) (by decide +kernel)) rfl
theorem q1610 : Cond.static yX10_ones ∈ GW := gw9 (List.mem_of_getElem? (i := 80) (by decide +kernel)) rfl
theorem q1611 : Cond.code yX10_ones cX10_ones 3 (some FieldType.int) ∈ GW := gw9 (List.mem_of_getElem? (i := 81) (by decide +kernel)) rfl
theorem q1612 : Cond.methodLink RX10 109 yJ9_min_7cf53 ∈ GW := gw9 (List.mem_of_getElem? (i := 82) (by decide +kernel)) rfl
theorem q1613 : Cond.methodLink RX10 182 yX10_grantsGiven ∈ GW := gw9 (List.mem_of_getElem? (i := 83) (by decide +kernel)) rfl
theorem q1614 : Cond.instanceMethod yX10_grantsGiven ∈ GW := gw9 (List.mem_of_getElem? (i := 85) (by decide +kernel)) rfl
theorem q1615 : Cond.code yX10_grantsGiven cX10_grantsGiven 4 none ∈ GW := gw9 (List.mem_of_getElem? (i := 86) (by decide +kernel)) rfl
theorem q1616 : Cond.methodLink RL 192 yX10_giveBack ∈ GW := gw9 (List.mem_of_getElem? (i := 87) (by decide +kernel)) rfl
theorem q1617 : Cond.instanceMethod yX10_giveBack ∈ GW := gw9 (List.mem_of_getElem? (i := 88) (by decide +kernel)) rfl
theorem q1618 : Cond.selects RX10 yX10_giveBack yX10_giveBack ∈ GW := gw9 (List.mem_of_getElem? (i := 89) (by decide +kernel)) rfl
theorem q1619 : Cond.code yX10_giveBack cX10_giveBack 4 (some FieldType.int) ∈ GW := gw9 (List.mem_of_getElem? (i := 90) (by decide +kernel)) rfl
theorem q1620 : Cond.methodLink RX10 193 yX10_backIt ∈ GW := gw9 (List.mem_of_getElem? (i := 91) (by decide +kernel)) rfl
theorem q1621 : Cond.instanceMethod yX10_backIt ∈ GW := gw9 (List.mem_of_getElem? (i := 93) (by decide +kernel)) rfl
theorem q1622 : Cond.code yX10_backIt cX10_backIt 6 (some FieldType.int) ∈ GW := gw9 (List.mem_of_getElem? (i := 94) (by decide +kernel)) rfl
theorem q1623 : Cond.constantLong RX10 188 (999) ∈ GW := gw9 (List.mem_of_getElem? (i := 95) (by decide +kernel)) rfl
theorem q1624 : Cond.methodLink RX10 190 yJ9_max_7cf53 ∈ GW := gw9 (List.mem_of_getElem? (i := 96) (by decide +kernel)) rfl
theorem q1625 : Cond.methodLink RL 195 yX10_renewFace ∈ GW := gw9 (List.mem_of_getElem? (i := 97) (by decide +kernel)) rfl
theorem q1626 : Cond.instanceMethod yX10_renewFace ∈ GW := gw9 (List.mem_of_getElem? (i := 98) (by decide +kernel)) rfl
theorem q1627 : Cond.selects RX10 yX10_renewFace yX10_renewFace ∈ GW := gw9 (List.mem_of_getElem? (i := 99) (by decide +kernel)) rfl
theorem q1628 : Cond.code yX10_renewFace cX10_renewFace 2 (some FieldType.int) ∈ GW := gw9 (List.mem_of_getElem? (i := 100) (by decide +kernel)) rfl
theorem q1629 : Cond.methodLink RX10 196 yX10_faceIt ∈ GW := gw9 (List.mem_of_getElem? (i := 101) (by decide +kernel)) rfl
theorem q1630 : Cond.instanceMethod yX10_faceIt ∈ GW := gw9 (List.mem_of_getElem? (i := 103) (by decide +kernel)) rfl
theorem q1631 : Cond.code yX10_faceIt cX10_faceIt 4 (some FieldType.int) ∈ GW := gw9 (List.mem_of_getElem? (i := 104) (by decide +kernel)) rfl
theorem q1632 : Cond.methodLink RL 198 yX10_passDays ∈ GW := gw9 (List.mem_of_getElem? (i := 105) (by decide +kernel)) rfl
theorem q1633 : Cond.instanceMethod yX10_passDays ∈ GW := gw9 (List.mem_of_getElem? (i := 106) (by decide +kernel)) rfl
theorem q1634 : Cond.selects RX10 yX10_passDays yX10_passDays ∈ GW := gw9 (List.mem_of_getElem? (i := 107) (by decide +kernel)) rfl
theorem q1635 : Cond.code yX10_passDays cX10_passDays 2 (some FieldType.int) ∈ GW := gw9 (List.mem_of_getElem? (i := 108) (by decide +kernel)) rfl
theorem q1636 : Cond.methodLink RX10 207 yX10_daysIt ∈ GW := gw9 (List.mem_of_getElem? (i := 109) (by decide +kernel)) rfl
theorem q1637 : Cond.instanceMethod yX10_daysIt ∈ GW := gw9 (List.mem_of_getElem? (i := 111) (by decide +kernel)) rfl
theorem q1638 : Cond.code yX10_daysIt cX10_daysIt 4 (some FieldType.int) ∈ GW := gw9 (List.mem_of_getElem? (i := 112) (by decide +kernel)) rfl
theorem q1639 : Cond.constantLong RX10 202 (30) ∈ GW := gw9 (List.mem_of_getElem? (i := 113) (by decide +kernel)) rfl
theorem q1640 : Cond.methodLink RX10 204 yX10_passesDay ∈ GW := gw9 (List.mem_of_getElem? (i := 114) (by decide +kernel)) rfl
theorem q1641 : Cond.instanceMethod yX10_passesDay ∈ GW := gw9 (List.mem_of_getElem? (i := 116) (by decide +kernel)) rfl
theorem q1642 : Cond.code yX10_passesDay cX10_passesDay 5 (some FieldType.int) ∈ GW := gw9 (List.mem_of_getElem? (i := 117) (by decide +kernel)) rfl
theorem q1643 : Cond.methodLink RX10 199 yX10_dropsBooking ∈ GW := gw9 (List.mem_of_getElem? (i := 118) (by decide +kernel)) rfl
theorem q1644 : Cond.instanceMethod yX10_dropsBooking ∈ GW := gw9 (List.mem_of_getElem? (i := 120) (by decide +kernel)) rfl
theorem q1645 : Cond.code yX10_dropsBooking cX10_dropsBooking 3 none ∈ GW := gw9 (List.mem_of_getElem? (i := 121) (by decide +kernel)) rfl
theorem q1646 : Cond.methodLink RL 202 yX10_hammerCount ∈ GW := gw9 (List.mem_of_getElem? (i := 122) (by decide +kernel)) rfl
theorem q1647 : Cond.instanceMethod yX10_hammerCount ∈ GW := gw9 (List.mem_of_getElem? (i := 123) (by decide +kernel)) rfl
theorem q1648 : Cond.selects RX10 yX10_hammerCount yX10_hammerCount ∈ GW := gw9 (List.mem_of_getElem? (i := 124) (by decide +kernel)) rfl
theorem q1649 : Cond.code yX10_hammerCount cX10_hammerCount 1 (some FieldType.int) ∈ GW := gw9 (List.mem_of_getElem? (i := 125) (by decide +kernel)) rfl
theorem q1650 : Cond.methodLink RX10 210 yX10_total ∈ GW := gw9 (List.mem_of_getElem? (i := 126) (by decide +kernel)) rfl
theorem q1651 : Cond.instanceMethod yX10_total ∈ GW := gw9 (List.mem_of_getElem? (i := 128) (by decide +kernel)) rfl
theorem q1652 : Cond.code yX10_total cX10_total 2 (some FieldType.int) ∈ GW := gw9 (List.mem_of_getElem? (i := 129) (by decide +kernel)) rfl
theorem q1653 : Cond.methodLink RL 205 yX10_pitch ∈ GW := gw9 (List.mem_of_getElem? (i := 130) (by decide +kernel)) rfl
theorem q1654 : Cond.instanceMethod yX10_pitch ∈ GW := gw9 (List.mem_of_getElem? (i := 131) (by decide +kernel)) rfl
theorem q1655 : Cond.selects RX10 yX10_pitch yX10_pitch ∈ GW := gw9 (List.mem_of_getElem? (i := 132) (by decide +kernel)) rfl
theorem q1656 : Cond.code yX10_pitch cX10_pitch 2 (some FieldType.int) ∈ GW := gw9 (List.mem_of_getElem? (i := 133) (by decide +kernel)) rfl
theorem q1657 : Cond.methodLink RX10 213 yX10_ofHammer ∈ GW := gw9 (List.mem_of_getElem? (i := 134) (by decide +kernel)) rfl
theorem q1658 : Cond.instanceMethod yX10_ofHammer ∈ GW := gw9 (List.mem_of_getElem? (i := 136) (by decide +kernel)) rfl
theorem q1659 : Cond.code yX10_ofHammer cX10_ofHammer 3 (some FieldType.int) ∈ GW := gw9 (List.mem_of_getElem? (i := 137) (by decide +kernel)) rfl
theorem q1660 : Cond.methodLink RL 208 yX10_wear ∈ GW := gw9 (List.mem_of_getElem? (i := 138) (by decide +kernel)) rfl
theorem q1661 : Cond.instanceMethod yX10_wear ∈ GW := gw9 (List.mem_of_getElem? (i := 139) (by decide +kernel)) rfl
theorem q1662 : Cond.selects RX10 yX10_wear yX10_wear ∈ GW := gw9 (List.mem_of_getElem? (i := 140) (by decide +kernel)) rfl
theorem q1663 : Cond.code yX10_wear cX10_wear 2 (some FieldType.int) ∈ GW := gw9 (List.mem_of_getElem? (i := 141) (by decide +kernel)) rfl
theorem q1664 : Cond.methodLink RL 211 yX10_isLent ∈ GW := gw9 (List.mem_of_getElem? (i := 142) (by decide +kernel)) rfl
theorem q1665 : Cond.instanceMethod yX10_isLent ∈ GW := gw9 (List.mem_of_getElem? (i := 143) (by decide +kernel)) rfl
theorem q1666 : Cond.selects RX10 yX10_isLent yX10_isLent ∈ GW := gw9 (List.mem_of_getElem? (i := 144) (by decide +kernel)) rfl
theorem q1667 : Cond.code yX10_isLent cX10_isLent 3 (some FieldType.boolean) ∈ GW := gw9 (List.mem_of_getElem? (i := 145) (by decide +kernel)) rfl
theorem q1668 : Cond.methodLink RL 214 yX10_borrower ∈ GW := gw9 (List.mem_of_getElem? (i := 146) (by decide +kernel)) rfl
theorem q1669 : Cond.instanceMethod yX10_borrower ∈ GW := gw9 (List.mem_of_getElem? (i := 147) (by decide +kernel)) rfl
theorem q1670 : Cond.selects RX10 yX10_borrower yX10_borrower ∈ GW := gw9 (List.mem_of_getElem? (i := 148) (by decide +kernel)) rfl
theorem q1671 : Cond.code yX10_borrower cX10_borrower 2 (some FieldType.int) ∈ GW := gw9 (List.mem_of_getElem? (i := 149) (by decide +kernel)) rfl
theorem q1672 : Cond.methodLink RX10 216 yX10_ofHammerIf ∈ GW := gw9 (List.mem_of_getElem? (i := 150) (by decide +kernel)) rfl
theorem q1673 : Cond.instanceMethod yX10_ofHammerIf ∈ GW := gw9 (List.mem_of_getElem? (i := 152) (by decide +kernel)) rfl
theorem q1674 : Cond.code yX10_ofHammerIf cX10_ofHammerIf 5 (some FieldType.int) ∈ GW := gw9 (List.mem_of_getElem? (i := 153) (by decide +kernel)) rfl
theorem q1675 : Cond.methodLink RL 217 yX10_dueDay ∈ GW := gw9 (List.mem_of_getElem? (i := 154) (by decide +kernel)) rfl
theorem q1676 : Cond.instanceMethod yX10_dueDay ∈ GW := gw9 (List.mem_of_getElem? (i := 155) (by decide +kernel)) rfl
theorem q1677 : Cond.selects RX10 yX10_dueDay yX10_dueDay ∈ GW := gw9 (List.mem_of_getElem? (i := 156) (by decide +kernel)) rfl
theorem q1678 : Cond.code yX10_dueDay cX10_dueDay 2 (some FieldType.int) ∈ GW := gw9 (List.mem_of_getElem? (i := 157) (by decide +kernel)) rfl
theorem q1679 : Cond.methodLink RL 220 yX10_rackOf ∈ GW := gw9 (List.mem_of_getElem? (i := 158) (by decide +kernel)) rfl
theorem q1680 : Cond.instanceMethod yX10_rackOf ∈ GW := gw9 (List.mem_of_getElem? (i := 159) (by decide +kernel)) rfl
theorem q1681 : Cond.selects RX10 yX10_rackOf yX10_rackOf ∈ GW := gw9 (List.mem_of_getElem? (i := 160) (by decide +kernel)) rfl
theorem q1682 : Cond.code yX10_rackOf cX10_rackOf 2 (some FieldType.int) ∈ GW := gw9 (List.mem_of_getElem? (i := 161) (by decide +kernel)) rfl
theorem q1683 : Cond.methodLink RL 223 yX10_placeOf ∈ GW := gw9 (List.mem_of_getElem? (i := 162) (by decide +kernel)) rfl
theorem q1684 : Cond.instanceMethod yX10_placeOf ∈ GW := gw9 (List.mem_of_getElem? (i := 163) (by decide +kernel)) rfl
theorem q1685 : Cond.selects RX10 yX10_placeOf yX10_placeOf ∈ GW := gw9 (List.mem_of_getElem? (i := 164) (by decide +kernel)) rfl
theorem q1686 : Cond.code yX10_placeOf cX10_placeOf 2 (some FieldType.int) ∈ GW := gw9 (List.mem_of_getElem? (i := 165) (by decide +kernel)) rfl
theorem q1687 : Cond.methodLink RL 226 yX10_hammerAt ∈ GW := gw9 (List.mem_of_getElem? (i := 166) (by decide +kernel)) rfl
theorem q1688 : Cond.instanceMethod yX10_hammerAt ∈ GW := gw9 (List.mem_of_getElem? (i := 167) (by decide +kernel)) rfl
theorem q1689 : Cond.selects RX10 yX10_hammerAt yX10_hammerAt ∈ GW := gw9 (List.mem_of_getElem? (i := 168) (by decide +kernel)) rfl
theorem q1690 : Cond.code yX10_hammerAt cX10_hammerAt 4 (some FieldType.int) ∈ GW := gw9 (List.mem_of_getElem? (i := 169) (by decide +kernel)) rfl
theorem q1691 : Cond.methodLink RL 229 yX10_bookings ∈ GW := gw9 (List.mem_of_getElem? (i := 170) (by decide +kernel)) rfl
theorem q1692 : Cond.instanceMethod yX10_bookings ∈ GW := gw9 (List.mem_of_getElem? (i := 171) (by decide +kernel)) rfl
theorem q1693 : Cond.selects RX10 yX10_bookings yX10_bookings ∈ GW := gw9 (List.mem_of_getElem? (i := 172) (by decide +kernel)) rfl
theorem q1694 : Cond.code yX10_bookings cX10_bookings 4 (some FieldType.int) ∈ GW := gw9 (List.mem_of_getElem? (i := 173) (by decide +kernel)) rfl
theorem q1695 : Cond.methodLink RL 232 yX10_isBooked ∈ GW := gw9 (List.mem_of_getElem? (i := 174) (by decide +kernel)) rfl
theorem q1696 : Cond.instanceMethod yX10_isBooked ∈ GW := gw9 (List.mem_of_getElem? (i := 175) (by decide +kernel)) rfl
theorem q1697 : Cond.selects RX10 yX10_isBooked yX10_isBooked ∈ GW := gw9 (List.mem_of_getElem? (i := 176) (by decide +kernel)) rfl
theorem q1698 : Cond.code yX10_isBooked cX10_isBooked 3 (some FieldType.boolean) ∈ GW := gw9 (List.mem_of_getElem? (i := 177) (by decide +kernel)) rfl
theorem q1699 : Cond.methodLink RL 236 yX10_requestCount ∈ GW := gw9 (List.mem_of_getElem? (i := 178) (by decide +kernel)) rfl
theorem q1700 : Cond.instanceMethod yX10_requestCount ∈ GW := gw9 (List.mem_of_getElem? (i := 179) (by decide +kernel)) rfl
theorem q1701 : Cond.selects RX10 yX10_requestCount yX10_requestCount ∈ GW := gw9 (List.mem_of_getElem? (i := 180) (by decide +kernel)) rfl
theorem q1702 : Cond.code yX10_requestCount cX10_requestCount 1 (some FieldType.int) ∈ GW := gw9 (List.mem_of_getElem? (i := 181) (by decide +kernel)) rfl
theorem q1703 : Cond.methodLink RL 239 yX10_requestAt ∈ GW := gw9 (List.mem_of_getElem? (i := 182) (by decide +kernel)) rfl
theorem q1704 : Cond.instanceMethod yX10_requestAt ∈ GW := gw9 (List.mem_of_getElem? (i := 183) (by decide +kernel)) rfl
theorem q1705 : Cond.selects RX10 yX10_requestAt yX10_requestAt ∈ GW := gw9 (List.mem_of_getElem? (i := 184) (by decide +kernel)) rfl
theorem q1706 : Cond.code yX10_requestAt cX10_requestAt 2 (some FieldType.int) ∈ GW := gw9 (List.mem_of_getElem? (i := 185) (by decide +kernel)) rfl
theorem q1707 : Cond.methodLink RL 242 yX10_fits ∈ GW := gw9 (List.mem_of_getElem? (i := 186) (by decide +kernel)) rfl
theorem q1708 : Cond.instanceMethod yX10_fits ∈ GW := gw9 (List.mem_of_getElem? (i := 187) (by decide +kernel)) rfl
theorem q1709 : Cond.selects RX10 yX10_fits yX10_fits ∈ GW := gw9 (List.mem_of_getElem? (i := 188) (by decide +kernel)) rfl
theorem q1710 : Cond.code yX10_fits cX10_fits 3 (some FieldType.boolean) ∈ GW := gw9 (List.mem_of_getElem? (i := 189) (by decide +kernel)) rfl
theorem q1711 : Cond.methodLink RL 245 yX10_bestHammer ∈ GW := gw9 (List.mem_of_getElem? (i := 190) (by decide +kernel)) rfl
theorem q1712 : Cond.instanceMethod yX10_bestHammer ∈ GW := gw9 (List.mem_of_getElem? (i := 191) (by decide +kernel)) rfl
theorem q1713 : Cond.selects RX10 yX10_bestHammer yX10_bestHammer ∈ GW := gw9 (List.mem_of_getElem? (i := 192) (by decide +kernel)) rfl
theorem q1714 : Cond.code yX10_bestHammer cX10_bestHammer 4 (some FieldType.int) ∈ GW := gw9 (List.mem_of_getElem? (i := 193) (by decide +kernel)) rfl
theorem q1715 : Cond.methodLink RL 249 yX10_mostGrants ∈ GW := gw9 (List.mem_of_getElem? (i := 194) (by decide +kernel)) rfl
theorem q1716 : Cond.instanceMethod yX10_mostGrants ∈ GW := gw9 (List.mem_of_getElem? (i := 195) (by decide +kernel)) rfl
theorem q1717 : Cond.selects RX10 yX10_mostGrants yX10_mostGrants ∈ GW := gw9 (List.mem_of_getElem? (i := 196) (by decide +kernel)) rfl
theorem q1718 : Cond.code yX10_mostGrants cX10_mostGrants 1 (some FieldType.int) ∈ GW := gw9 (List.mem_of_getElem? (i := 197) (by decide +kernel)) rfl
theorem q1719 : Cond.methodLink RL 253 yX10_mostGrantsBySets ∈ GW := gw9 (List.mem_of_getElem? (i := 198) (by decide +kernel)) rfl
theorem q1720 : Cond.instanceMethod yX10_mostGrantsBySets ∈ GW := gw9 (List.mem_of_getElem? (i := 199) (by decide +kernel)) rfl
theorem q1721 : Cond.selects RX10 yX10_mostGrantsBySets yX10_mostGrantsBySets ∈ GW := gw9 (List.mem_of_getElem? (i := 200) (by decide +kernel)) rfl
theorem q1722 : Cond.code yX10_mostGrantsBySets cX10_mostGrantsBySets 1 (some FieldType.int) ∈ GW := gw9 (List.mem_of_getElem? (i := 201) (by decide +kernel)) rfl
theorem q1723 : Cond.methodLink RX10 220 yX10_mostGrants ∈ GW := gw9 (List.mem_of_getElem? (i := 202) (by decide +kernel)) rfl
theorem q1724 : Cond.methodLink RL 256 yX10_loudness ∈ GW := gw9 (List.mem_of_getElem? (i := 203) (by decide +kernel)) rfl
theorem q1725 : Cond.instanceMethod yX10_loudness ∈ GW := gw9 (List.mem_of_getElem? (i := 204) (by decide +kernel)) rfl
theorem q1726 : Cond.selects RX10 yX10_loudness yX10_loudness ∈ GW := gw9 (List.mem_of_getElem? (i := 205) (by decide +kernel)) rfl
theorem q1727 : Cond.code yX10_loudness cX10_loudness 3 (some FieldType.int) ∈ GW := gw9 (List.mem_of_getElem? (i := 206) (by decide +kernel)) rfl
theorem q1728 : Cond.constantLong RX10 226 (84) ∈ GW := gw9 (List.mem_of_getElem? (i := 207) (by decide +kernel)) rfl
theorem q1729 : Cond.methodLink RX10 228 yX10_loudIn ∈ GW := gw9 (List.mem_of_getElem? (i := 208) (by decide +kernel)) rfl
theorem q1730 : Cond.instanceMethod yX10_loudIn ∈ GW := gw9 (List.mem_of_getElem? (i := 210) (by decide +kernel)) rfl
theorem q1731 : Cond.code yX10_loudIn cX10_loudIn 5 (some FieldType.int) ∈ GW := gw9 (List.mem_of_getElem? (i := 211) (by decide +kernel)) rfl
theorem q1732 : Cond.methodLink RX10 223 yX10_loud ∈ GW := gw9 (List.mem_of_getElem? (i := 212) (by decide +kernel)) rfl
theorem q1733 : Cond.static yX10_loud ∈ GW := gw9 (List.mem_of_getElem? (i := 213) (by decide +kernel)) rfl
theorem q1734 : Cond.code yX10_loud cX10_loud 3 (some FieldType.int) ∈ GW := gw9 (List.mem_of_getElem? (i := 214) (by decide +kernel)) rfl
theorem q1735 : Cond.methodLink RL 259 yX10_loudestPitch ∈ GW := gw9 (List.mem_of_getElem? (i := 215) (by decide +kernel)) rfl
theorem q1736 : Cond.instanceMethod yX10_loudestPitch ∈ GW := gw9 (List.mem_of_getElem? (i := 216) (by decide +kernel)) rfl
theorem q1737 : Cond.selects RX10 yX10_loudestPitch yX10_loudestPitch ∈ GW := gw9 (List.mem_of_getElem? (i := 217) (by decide +kernel)) rfl
theorem q1738 : Cond.code yX10_loudestPitch cX10_loudestPitch 4 (some FieldType.int) ∈ GW := gw9 (List.mem_of_getElem? (i := 218) (by decide +kernel)) rfl
theorem q1739 : Cond.methodLink RX10 231 yX10_many ∈ GW := gw9 (List.mem_of_getElem? (i := 219) (by decide +kernel)) rfl
theorem q1740 : Cond.instanceMethod yX10_many ∈ GW := gw9 (List.mem_of_getElem? (i := 221) (by decide +kernel)) rfl
theorem q1741 : Cond.code yX10_many cX10_many 4 (some FieldType.int) ∈ GW := gw9 (List.mem_of_getElem? (i := 222) (by decide +kernel)) rfl
theorem q1742 : Cond.methodLink RL 262 yX10_consonance ∈ GW := gw9 (List.mem_of_getElem? (i := 223) (by decide +kernel)) rfl
theorem q1743 : Cond.instanceMethod yX10_consonance ∈ GW := gw9 (List.mem_of_getElem? (i := 224) (by decide +kernel)) rfl
theorem q1744 : Cond.selects RX10 yX10_consonance yX10_consonance ∈ GW := gw9 (List.mem_of_getElem? (i := 225) (by decide +kernel)) rfl
theorem q1745 : Cond.code yX10_consonance cX10_consonance 3 (some FieldType.int) ∈ GW := gw9 (List.mem_of_getElem? (i := 226) (by decide +kernel)) rfl
theorem q1746 : Cond.methodLink RX10 234 yX10_sound ∈ GW := gw9 (List.mem_of_getElem? (i := 227) (by decide +kernel)) rfl
theorem q1747 : Cond.instanceMethod yX10_sound ∈ GW := gw9 (List.mem_of_getElem? (i := 229) (by decide +kernel)) rfl
theorem q1748 : Cond.code yX10_sound cX10_sound 5 (some FieldType.int) ∈ GW := gw9 (List.mem_of_getElem? (i := 230) (by decide +kernel)) rfl
theorem q1749 : Cond.methodLink RL 265 yX10_bestChord ∈ GW := gw9 (List.mem_of_getElem? (i := 231) (by decide +kernel)) rfl
theorem q1750 : Cond.instanceMethod yX10_bestChord ∈ GW := gw9 (List.mem_of_getElem? (i := 232) (by decide +kernel)) rfl
theorem q1751 : Cond.selects RX10 yX10_bestChord yX10_bestChord ∈ GW := gw9 (List.mem_of_getElem? (i := 233) (by decide +kernel)) rfl
theorem q1752 : Cond.code yX10_bestChord cX10_bestChord 5 (some FieldType.int) ∈ GW := gw9 (List.mem_of_getElem? (i := 234) (by decide +kernel)) rfl
theorem q1753 : Cond.methodLink RX10 237 yX10_chord ∈ GW := gw9 (List.mem_of_getElem? (i := 235) (by decide +kernel)) rfl
theorem q1754 : Cond.instanceMethod yX10_chord ∈ GW := gw9 (List.mem_of_getElem? (i := 237) (by decide +kernel)) rfl
theorem q1755 : Cond.code yX10_chord cX10_chord 5 (some FieldType.int) ∈ GW := gw9 (List.mem_of_getElem? (i := 238) (by decide +kernel)) rfl
theorem q1756 : Cond.methodLink RL 268 yX10_bestChordBySets ∈ GW := gw9 (List.mem_of_getElem? (i := 239) (by decide +kernel)) rfl
theorem q1757 : Cond.instanceMethod yX10_bestChordBySets ∈ GW := gw10 (List.mem_of_getElem? (i := 0) (by decide +kernel)) rfl
theorem q1758 : Cond.selects RX10 yX10_bestChordBySets yX10_bestChordBySets ∈ GW := gw10 (List.mem_of_getElem? (i := 1) (by decide +kernel)) rfl
theorem q1759 : Cond.code yX10_bestChordBySets cX10_bestChordBySets 2 (some FieldType.int) ∈ GW := gw10 (List.mem_of_getElem? (i := 2) (by decide +kernel)) rfl
theorem q1760 : Cond.methodLink RX10 240 yX10_bestChord ∈ GW := gw10 (List.mem_of_getElem? (i := 3) (by decide +kernel)) rfl
theorem q1761 : Cond.methodLink RL 271 yX10_swapsToSort ∈ GW := gw10 (List.mem_of_getElem? (i := 4) (by decide +kernel)) rfl
theorem q1762 : Cond.instanceMethod yX10_swapsToSort ∈ GW := gw10 (List.mem_of_getElem? (i := 5) (by decide +kernel)) rfl
theorem q1763 : Cond.selects RX10 yX10_swapsToSort yX10_swapsToSort ∈ GW := gw10 (List.mem_of_getElem? (i := 6) (by decide +kernel)) rfl
theorem q1764 : Cond.code yX10_swapsToSort cX10_swapsToSort 2 (some FieldType.int) ∈ GW := gw10 (List.mem_of_getElem? (i := 7) (by decide +kernel)) rfl
theorem q1765 : Cond.methodLink RL 274 yX10_swapsToSortByCycles ∈ GW := gw10 (List.mem_of_getElem? (i := 8) (by decide +kernel)) rfl
theorem q1766 : Cond.instanceMethod yX10_swapsToSortByCycles ∈ GW := gw10 (List.mem_of_getElem? (i := 9) (by decide +kernel)) rfl
theorem q1767 : Cond.selects RX10 yX10_swapsToSortByCycles yX10_swapsToSortByCycles ∈ GW := gw10 (List.mem_of_getElem? (i := 10) (by decide +kernel)) rfl
theorem q1768 : Cond.code yX10_swapsToSortByCycles cX10_swapsToSortByCycles 2 (some FieldType.int) ∈ GW := gw10 (List.mem_of_getElem? (i := 11) (by decide +kernel)) rfl
theorem q1769 : Cond.methodLink RX10 243 yX10_swapsToSort ∈ GW := gw10 (List.mem_of_getElem? (i := 12) (by decide +kernel)) rfl
theorem q1770 : Cond.methodLink RL 277 yX10_hammerByWear ∈ GW := gw10 (List.mem_of_getElem? (i := 13) (by decide +kernel)) rfl
theorem q1771 : Cond.instanceMethod yX10_hammerByWear ∈ GW := gw10 (List.mem_of_getElem? (i := 14) (by decide +kernel)) rfl
theorem q1772 : Cond.selects RX10 yX10_hammerByWear yX10_hammerByWear ∈ GW := gw10 (List.mem_of_getElem? (i := 15) (by decide +kernel)) rfl
theorem q1773 : Cond.code yX10_hammerByWear cX10_hammerByWear 6 (some FieldType.int) ∈ GW := gw10 (List.mem_of_getElem? (i := 16) (by decide +kernel)) rfl
theorem q1774 : Cond.methodLink RL 281 yX10_coins ∈ GW := gw10 (List.mem_of_getElem? (i := 17) (by decide +kernel)) rfl
theorem q1775 : Cond.instanceMethod yX10_coins ∈ GW := gw10 (List.mem_of_getElem? (i := 18) (by decide +kernel)) rfl
theorem q1776 : Cond.selects RX10 yX10_coins yX10_coins ∈ GW := gw10 (List.mem_of_getElem? (i := 19) (by decide +kernel)) rfl
theorem q1777 : Cond.code yX10_coins cX10_coins 1 (some FieldType.int) ∈ GW := gw10 (List.mem_of_getElem? (i := 20) (by decide +kernel)) rfl
theorem q1778 : Cond.methodLink RL 285 yX10_coinsByAccounts ∈ GW := gw10 (List.mem_of_getElem? (i := 21) (by decide +kernel)) rfl
theorem q1779 : Cond.instanceMethod yX10_coinsByAccounts ∈ GW := gw10 (List.mem_of_getElem? (i := 22) (by decide +kernel)) rfl
theorem q1780 : Cond.selects RX10 yX10_coinsByAccounts yX10_coinsByAccounts ∈ GW := gw10 (List.mem_of_getElem? (i := 23) (by decide +kernel)) rfl
theorem q1781 : Cond.code yX10_coinsByAccounts cX10_coinsByAccounts 1 (some FieldType.int) ∈ GW := gw10 (List.mem_of_getElem? (i := 24) (by decide +kernel)) rfl
theorem q1782 : Cond.methodLink RL 289 yX10_brokenTotal ∈ GW := gw10 (List.mem_of_getElem? (i := 25) (by decide +kernel)) rfl
theorem q1783 : Cond.instanceMethod yX10_brokenTotal ∈ GW := gw10 (List.mem_of_getElem? (i := 26) (by decide +kernel)) rfl
theorem q1784 : Cond.selects RX10 yX10_brokenTotal yX10_brokenTotal ∈ GW := gw10 (List.mem_of_getElem? (i := 27) (by decide +kernel)) rfl
theorem q1785 : Cond.code yX10_brokenTotal cX10_brokenTotal 1 (some FieldType.int) ∈ GW := gw10 (List.mem_of_getElem? (i := 28) (by decide +kernel)) rfl
theorem q1786 : Cond.methodLink RL 293 yX10_lentTotal ∈ GW := gw10 (List.mem_of_getElem? (i := 29) (by decide +kernel)) rfl
theorem q1787 : Cond.instanceMethod yX10_lentTotal ∈ GW := gw10 (List.mem_of_getElem? (i := 30) (by decide +kernel)) rfl
theorem q1788 : Cond.selects RX10 yX10_lentTotal yX10_lentTotal ∈ GW := gw10 (List.mem_of_getElem? (i := 31) (by decide +kernel)) rfl
theorem q1789 : Cond.code yX10_lentTotal cX10_lentTotal 1 (some FieldType.int) ∈ GW := gw10 (List.mem_of_getElem? (i := 32) (by decide +kernel)) rfl
theorem q1790 : Cond.methodLink RL 297 yX10_day ∈ GW := gw10 (List.mem_of_getElem? (i := 33) (by decide +kernel)) rfl
theorem q1791 : Cond.instanceMethod yX10_day ∈ GW := gw10 (List.mem_of_getElem? (i := 34) (by decide +kernel)) rfl
theorem q1792 : Cond.selects RX10 yX10_day yX10_day ∈ GW := gw10 (List.mem_of_getElem? (i := 35) (by decide +kernel)) rfl
theorem q1793 : Cond.code yX10_day cX10_day 1 (some FieldType.int) ∈ GW := gw10 (List.mem_of_getElem? (i := 36) (by decide +kernel)) rfl
theorem q1794 : Cond.methodLink RL 301 yX10_meanWear ∈ GW := gw10 (List.mem_of_getElem? (i := 37) (by decide +kernel)) rfl
theorem q1795 : Cond.instanceMethod yX10_meanWear ∈ GW := gw10 (List.mem_of_getElem? (i := 38) (by decide +kernel)) rfl
theorem q1796 : Cond.selects RX10 yX10_meanWear yX10_meanWear ∈ GW := gw10 (List.mem_of_getElem? (i := 39) (by decide +kernel)) rfl
theorem q1797 : Cond.code yX10_meanWear cX10_meanWear 3 (some FieldType.double) ∈ GW := gw10 (List.mem_of_getElem? (i := 40) (by decide +kernel)) rfl
theorem q1798 : Cond.methodLink RL 304 yX10_lentShare ∈ GW := gw10 (List.mem_of_getElem? (i := 41) (by decide +kernel)) rfl
theorem q1799 : Cond.instanceMethod yX10_lentShare ∈ GW := gw10 (List.mem_of_getElem? (i := 42) (by decide +kernel)) rfl
theorem q1800 : Cond.selects RX10 yX10_lentShare yX10_lentShare ∈ GW := gw10 (List.mem_of_getElem? (i := 43) (by decide +kernel)) rfl
theorem q1801 : Cond.code yX10_lentShare cX10_lentShare 1 (some FieldType.float) ∈ GW := gw10 (List.mem_of_getElem? (i := 44) (by decide +kernel)) rfl
theorem q1802 : Cond.methodLink RL 309 yX10_isConsistent ∈ GW := gw10 (List.mem_of_getElem? (i := 45) (by decide +kernel)) rfl
theorem q1803 : Cond.instanceMethod yX10_isConsistent ∈ GW := gw10 (List.mem_of_getElem? (i := 46) (by decide +kernel)) rfl
theorem q1804 : Cond.selects RX10 yX10_isConsistent yX10_isConsistent ∈ GW := gw10 (List.mem_of_getElem? (i := 47) (by decide +kernel)) rfl
theorem q1805 : Cond.code yX10_isConsistent cX10_isConsistent 1 (some FieldType.boolean) ∈ GW := gw10 (List.mem_of_getElem? (i := 48) (by decide +kernel)) rfl
theorem q1806 : Cond.methodLink RL 312 yX10_renderRack ∈ GW := gw10 (List.mem_of_getElem? (i := 49) (by decide +kernel)) rfl
theorem q1807 : Cond.instanceMethod yX10_renderRack ∈ GW := gw10 (List.mem_of_getElem? (i := 50) (by decide +kernel)) rfl
theorem q1808 : Cond.selects RX10 yX10_renderRack yX10_renderRack ∈ GW := gw10 (List.mem_of_getElem? (i := 51) (by decide +kernel)) rfl
theorem q1809 : Cond.code yX10_renderRack cX10_renderRack 3 (some FieldType.int) ∈ GW := gw10 (List.mem_of_getElem? (i := 52) (by decide +kernel)) rfl
theorem q1810 : Cond.methodLink RX10 249 yX10_sign ∈ GW := gw10 (List.mem_of_getElem? (i := 53) (by decide +kernel)) rfl
theorem q1811 : Cond.instanceMethod yX10_sign ∈ GW := gw10 (List.mem_of_getElem? (i := 55) (by decide +kernel)) rfl
theorem q1812 : Cond.code yX10_sign cX10_sign 2 none ∈ GW := gw10 (List.mem_of_getElem? (i := 56) (by decide +kernel)) rfl
theorem q1813 : Cond.methodLink RX10 252 yX10_writesNumber ∈ GW := gw10 (List.mem_of_getElem? (i := 57) (by decide +kernel)) rfl
theorem q1814 : Cond.instanceMethod yX10_writesNumber ∈ GW := gw10 (List.mem_of_getElem? (i := 59) (by decide +kernel)) rfl
theorem q1815 : Cond.code yX10_writesNumber cX10_writesNumber 3 none ∈ GW := gw10 (List.mem_of_getElem? (i := 60) (by decide +kernel)) rfl
theorem q1816 : Cond.methodLink RL 315 yX10_renderHammer ∈ GW := gw10 (List.mem_of_getElem? (i := 61) (by decide +kernel)) rfl
theorem q1817 : Cond.instanceMethod yX10_renderHammer ∈ GW := gw10 (List.mem_of_getElem? (i := 62) (by decide +kernel)) rfl
theorem q1818 : Cond.selects RX10 yX10_renderHammer yX10_renderHammer ∈ GW := gw10 (List.mem_of_getElem? (i := 63) (by decide +kernel)) rfl
theorem q1819 : Cond.code yX10_renderHammer cX10_renderHammer 3 (some FieldType.int) ∈ GW := gw10 (List.mem_of_getElem? (i := 64) (by decide +kernel)) rfl
theorem q1820 : Cond.methodLink RX10 255 yX10_writes ∈ GW := gw10 (List.mem_of_getElem? (i := 65) (by decide +kernel)) rfl
theorem q1821 : Cond.instanceMethod yX10_writes ∈ GW := gw10 (List.mem_of_getElem? (i := 67) (by decide +kernel)) rfl
theorem q1822 : Cond.code yX10_writes cX10_writes 3 none ∈ GW := gw10 (List.mem_of_getElem? (i := 68) (by decide +kernel)) rfl
theorem q1823 : Cond.methodLink RL 318 yX10_outputAt ∈ GW := gw10 (List.mem_of_getElem? (i := 69) (by decide +kernel)) rfl
theorem q1824 : Cond.instanceMethod yX10_outputAt ∈ GW := gw10 (List.mem_of_getElem? (i := 70) (by decide +kernel)) rfl
theorem q1825 : Cond.selects RX10 yX10_outputAt yX10_outputAt ∈ GW := gw10 (List.mem_of_getElem? (i := 71) (by decide +kernel)) rfl
theorem q1826 : Cond.code yX10_outputAt cX10_outputAt 2 (some FieldType.char) ∈ GW := gw10 (List.mem_of_getElem? (i := 72) (by decide +kernel)) rfl
theorem q1827 : Cond.methodLink RL 322 yX10_type ∈ GW := gw10 (List.mem_of_getElem? (i := 73) (by decide +kernel)) rfl
theorem q1828 : Cond.instanceMethod yX10_type ∈ GW := gw10 (List.mem_of_getElem? (i := 74) (by decide +kernel)) rfl
theorem q1829 : Cond.selects RX10 yX10_type yX10_type ∈ GW := gw10 (List.mem_of_getElem? (i := 75) (by decide +kernel)) rfl
theorem q1830 : Cond.code yX10_type cX10_type 2 (some FieldType.int) ∈ GW := gw10 (List.mem_of_getElem? (i := 76) (by decide +kernel)) rfl
theorem q1831 : Cond.constantLong RX10 258 (32) ∈ GW := gw10 (List.mem_of_getElem? (i := 77) (by decide +kernel)) rfl
theorem q1832 : Cond.constantLong RX10 260 (126) ∈ GW := gw10 (List.mem_of_getElem? (i := 78) (by decide +kernel)) rfl
theorem q1833 : Cond.methodLink RL 326 yX10_runScript ∈ GW := gw10 (List.mem_of_getElem? (i := 79) (by decide +kernel)) rfl
theorem q1834 : Cond.instanceMethod yX10_runScript ∈ GW := gw10 (List.mem_of_getElem? (i := 80) (by decide +kernel)) rfl
theorem q1835 : Cond.selects RX10 yX10_runScript yX10_runScript ∈ GW := gw10 (List.mem_of_getElem? (i := 81) (by decide +kernel)) rfl
theorem q1836 : Cond.code yX10_runScript cX10_runScript 4 (some FieldType.int) ∈ GW := gw10 (List.mem_of_getElem? (i := 82) (by decide +kernel)) rfl
theorem q1837 : Cond.methodLink RX10 309 yX10_readCommand ∈ GW := gw10 (List.mem_of_getElem? (i := 83) (by decide +kernel)) rfl
theorem q1838 : Cond.instanceMethod yX10_readCommand ∈ GW := gw10 (List.mem_of_getElem? (i := 85) (by decide +kernel)) rfl
theorem q1839 : Cond.code yX10_readCommand cX10_readCommand 4 none ∈ GW := gw10 (List.mem_of_getElem? (i := 86) (by decide +kernel)) rfl
theorem q1840 : Cond.methodLink RX10 303 yX10_likeness ∈ GW := gw10 (List.mem_of_getElem? (i := 87) (by decide +kernel)) rfl
theorem q1841 : Cond.instanceMethod yX10_likeness ∈ GW := gw10 (List.mem_of_getElem? (i := 89) (by decide +kernel)) rfl
theorem q1842 : Cond.code yX10_likeness cX10_likeness 4 (some FieldType.int) ∈ GW := gw10 (List.mem_of_getElem? (i := 90) (by decide +kernel)) rfl
theorem q1843 : Cond.methodLink RX10 306 yX10_readArguments ∈ GW := gw10 (List.mem_of_getElem? (i := 91) (by decide +kernel)) rfl
theorem q1844 : Cond.instanceMethod yX10_readArguments ∈ GW := gw10 (List.mem_of_getElem? (i := 93) (by decide +kernel)) rfl
theorem q1845 : Cond.code yX10_readArguments cX10_readArguments 3 none ∈ GW := gw10 (List.mem_of_getElem? (i := 94) (by decide +kernel)) rfl
theorem q1846 : Cond.methodLink RX10 288 yX10_number ∈ GW := gw10 (List.mem_of_getElem? (i := 95) (by decide +kernel)) rfl
theorem q1847 : Cond.instanceMethod yX10_number ∈ GW := gw10 (List.mem_of_getElem? (i := 97) (by decide +kernel)) rfl
theorem q1848 : Cond.code yX10_number cX10_number 3 (some FieldType.int) ∈ GW := gw10 (List.mem_of_getElem? (i := 98) (by decide +kernel)) rfl
theorem q1849 : Cond.methodLink RX10 282 yX10_digit ∈ GW := gw10 (List.mem_of_getElem? (i := 99) (by decide +kernel)) rfl
theorem q1850 : Cond.instanceMethod yX10_digit ∈ GW := gw10 (List.mem_of_getElem? (i := 101) (by decide +kernel)) rfl
theorem q1851 : Cond.code yX10_digit cX10_digit 2 (some FieldType.int) ∈ GW := gw10 (List.mem_of_getElem? (i := 102) (by decide +kernel)) rfl
theorem q1852 : Cond.methodLink RX10 275 yX10_here ∈ GW := gw10 (List.mem_of_getElem? (i := 103) (by decide +kernel)) rfl
theorem q1853 : Cond.instanceMethod yX10_here ∈ GW := gw10 (List.mem_of_getElem? (i := 105) (by decide +kernel)) rfl
theorem q1854 : Cond.code yX10_here cX10_here 1 (some FieldType.int) ∈ GW := gw10 (List.mem_of_getElem? (i := 106) (by decide +kernel)) rfl
theorem q1855 : Cond.constantLong RX10 278 (48) ∈ GW := gw10 (List.mem_of_getElem? (i := 107) (by decide +kernel)) rfl
theorem q1856 : Cond.constantLong RX10 280 (57) ∈ GW := gw10 (List.mem_of_getElem? (i := 108) (by decide +kernel)) rfl
theorem q1857 : Cond.methodLink RX10 294 yX10_digitBehind ∈ GW := gw10 (List.mem_of_getElem? (i := 109) (by decide +kernel)) rfl
theorem q1858 : Cond.instanceMethod yX10_digitBehind ∈ GW := gw10 (List.mem_of_getElem? (i := 111) (by decide +kernel)) rfl
theorem q1859 : Cond.code yX10_digitBehind cX10_digitBehind 2 (some FieldType.int) ∈ GW := gw10 (List.mem_of_getElem? (i := 112) (by decide +kernel)) rfl
theorem q1860 : Cond.methodLink RX10 285 yX10_expects ∈ GW := gw10 (List.mem_of_getElem? (i := 113) (by decide +kernel)) rfl
theorem q1861 : Cond.instanceMethod yX10_expects ∈ GW := gw10 (List.mem_of_getElem? (i := 115) (by decide +kernel)) rfl
theorem q1862 : Cond.code yX10_expects cX10_expects 2 none ∈ GW := gw10 (List.mem_of_getElem? (i := 116) (by decide +kernel)) rfl
theorem q1863 : Cond.methodLink RX10 297 yX10_readAsk ∈ GW := gw10 (List.mem_of_getElem? (i := 117) (by decide +kernel)) rfl
theorem q1864 : Cond.instanceMethod yX10_readAsk ∈ GW := gw10 (List.mem_of_getElem? (i := 119) (by decide +kernel)) rfl
theorem q1865 : Cond.code yX10_readAsk cX10_readAsk 2 none ∈ GW := gw10 (List.mem_of_getElem? (i := 120) (by decide +kernel)) rfl
theorem q1866 : Cond.methodLink RX10 291 yX10_numberBehind ∈ GW := gw10 (List.mem_of_getElem? (i := 121) (by decide +kernel)) rfl
theorem q1867 : Cond.instanceMethod yX10_numberBehind ∈ GW := gw10 (List.mem_of_getElem? (i := 123) (by decide +kernel)) rfl
theorem q1868 : Cond.code yX10_numberBehind cX10_numberBehind 2 (some FieldType.int) ∈ GW := gw10 (List.mem_of_getElem? (i := 124) (by decide +kernel)) rfl
theorem q1869 : Cond.methodLink RX10 312 yX10_does ∈ GW := gw10 (List.mem_of_getElem? (i := 125) (by decide +kernel)) rfl
theorem q1870 : Cond.instanceMethod yX10_does ∈ GW := gw10 (List.mem_of_getElem? (i := 127) (by decide +kernel)) rfl
theorem q1871 : Cond.code yX10_does cX10_does 5 none ∈ GW := gw10 (List.mem_of_getElem? (i := 128) (by decide +kernel)) rfl
theorem q1872 : Cond.methodLink RL 329 yX10_errorPosition ∈ GW := gw10 (List.mem_of_getElem? (i := 129) (by decide +kernel)) rfl
theorem q1873 : Cond.instanceMethod yX10_errorPosition ∈ GW := gw10 (List.mem_of_getElem? (i := 130) (by decide +kernel)) rfl
theorem q1874 : Cond.selects RX10 yX10_errorPosition yX10_errorPosition ∈ GW := gw10 (List.mem_of_getElem? (i := 131) (by decide +kernel)) rfl
theorem q1875 : Cond.code yX10_errorPosition cX10_errorPosition 1 (some FieldType.int) ∈ GW := gw10 (List.mem_of_getElem? (i := 132) (by decide +kernel)) rfl
theorem q1876 : Cond.methodLink RL 332 yX10_failedCommand ∈ GW := gw10 (List.mem_of_getElem? (i := 133) (by decide +kernel)) rfl
theorem q1877 : Cond.instanceMethod yX10_failedCommand ∈ GW := gw10 (List.mem_of_getElem? (i := 134) (by decide +kernel)) rfl
theorem q1878 : Cond.selects RX10 yX10_failedCommand yX10_failedCommand ∈ GW := gw10 (List.mem_of_getElem? (i := 135) (by decide +kernel)) rfl
theorem q1879 : Cond.code yX10_failedCommand cX10_failedCommand 1 (some FieldType.int) ∈ GW := gw10 (List.mem_of_getElem? (i := 136) (by decide +kernel)) rfl
theorem q1880 : Cond.methodLink RL 335 yX10_undo ∈ GW := gw10 (List.mem_of_getElem? (i := 137) (by decide +kernel)) rfl
theorem q1881 : Cond.instanceMethod yX10_undo ∈ GW := gw10 (List.mem_of_getElem? (i := 138) (by decide +kernel)) rfl
theorem q1882 : Cond.selects RX10 yX10_undo yX10_undo ∈ GW := gw10 (List.mem_of_getElem? (i := 139) (by decide +kernel)) rfl
theorem q1883 : Cond.code yX10_undo cX10_undo 2 (some FieldType.int) ∈ GW := gw10 (List.mem_of_getElem? (i := 140) (by decide +kernel)) rfl
theorem q1884 : Cond.methodLink RL 339 yX10_save ∈ GW := gw10 (List.mem_of_getElem? (i := 141) (by decide +kernel)) rfl
theorem q1885 : Cond.instanceMethod yX10_save ∈ GW := gw10 (List.mem_of_getElem? (i := 142) (by decide +kernel)) rfl
theorem q1886 : Cond.selects RX10 yX10_save yX10_save ∈ GW := gw10 (List.mem_of_getElem? (i := 143) (by decide +kernel)) rfl
theorem q1887 : Cond.code yX10_save cX10_save 2 (some FieldType.int) ∈ GW := gw10 (List.mem_of_getElem? (i := 144) (by decide +kernel)) rfl
theorem q1888 : Cond.methodLink RL 342 yX10_restore ∈ GW := gw10 (List.mem_of_getElem? (i := 145) (by decide +kernel)) rfl
theorem q1889 : Cond.instanceMethod yX10_restore ∈ GW := gw10 (List.mem_of_getElem? (i := 146) (by decide +kernel)) rfl
theorem q1890 : Cond.selects RX10 yX10_restore yX10_restore ∈ GW := gw10 (List.mem_of_getElem? (i := 147) (by decide +kernel)) rfl
theorem q1891 : Cond.code yX10_restore cX10_restore 2 (some FieldType.int) ∈ GW := gw10 (List.mem_of_getElem? (i := 148) (by decide +kernel)) rfl
theorem q1892 : Cond.selects RJ4 yJ4_length_8abf5 yJ4_length_8abf5 ∈ GW := gw10 (List.mem_of_getElem? (i := 162) (by decide +kernel)) rfl
theorem q1916 : Cond.selects RX3 yX3_spareState yX3_spareState ∈ GW := List.mem_filter.mpr ⟨List.mem_append_left _ (List.mem_map.mpr ⟨(yX3_spareState, 3), List.mem_append_left _ (List.mem_of_getElem? (i := 0) (by decide +kernel)), rfl⟩), rfl⟩
theorem q1917 : Cond.selects RX8 yX8_dropRequestsThatHaveCome yX8_dropRequestsThatHaveCome ∈ GW := List.mem_filter.mpr ⟨List.mem_append_left _ (List.mem_map.mpr ⟨(yX8_dropRequestsThatHaveCome, 10), List.mem_append_left _ (List.mem_of_getElem? (i := 1) (by decide +kernel)), rfl⟩), rfl⟩
theorem q1918 : Cond.selects RX0 yX0_has yX0_has ∈ GW := List.mem_filter.mpr ⟨List.mem_append_left _ (List.mem_map.mpr ⟨(yX0_has, 5), List.mem_append_left _ (List.mem_of_getElem? (i := 2) (by decide +kernel)), rfl⟩), rfl⟩
theorem q1919 : Cond.selects RX4 yX4_greatestFrom yX4_greatestFrom ∈ GW := List.mem_filter.mpr ⟨List.mem_append_left _ (List.mem_map.mpr ⟨(yX4_greatestFrom, 5), List.mem_append_left _ (List.mem_of_getElem? (i := 3) (by decide +kernel)), rfl⟩), rfl⟩
theorem q1920 : Cond.selects RX4 yX4_firstThatKeeps yX4_firstThatKeeps ∈ GW := List.mem_filter.mpr ⟨List.mem_append_left _ (List.mem_map.mpr ⟨(yX4_firstThatKeeps, 5), List.mem_append_left _ (List.mem_of_getElem? (i := 4) (by decide +kernel)), rfl⟩), rfl⟩
theorem q1921 : Cond.selects RX8 yX8_book yX8_book ∈ GW := List.mem_filter.mpr ⟨List.mem_append_left _ (List.mem_map.mpr ⟨(yX8_book, 10), List.mem_append_left _ (List.mem_of_getElem? (i := 5) (by decide +kernel)), rfl⟩), rfl⟩
theorem q1922 : Cond.selects RX9 yX9_settled yX9_settled ∈ GW := List.mem_filter.mpr ⟨List.mem_append_left _ (List.mem_map.mpr ⟨(yX9_settled, 10), List.mem_append_left _ (List.mem_of_getElem? (i := 6) (by decide +kernel)), rfl⟩), rfl⟩
theorem q1923 : Cond.selects "java/lang/Throwable" ⟨"java/lang/Throwable","fillInStackTrace","(I)Ljava/lang/Throwable;"⟩ ⟨"java/lang/Throwable","fillInStackTrace","(I)Ljava/lang/Throwable;"⟩ ∈ GW := List.mem_filter.mpr ⟨List.mem_append_left _ (List.mem_map.mpr ⟨(⟨"java/lang/Throwable","fillInStackTrace","(I)Ljava/lang/Throwable;"⟩, 6), List.mem_append_left _ (List.mem_of_getElem? (i := 7) (by decide +kernel)), rfl⟩), rfl⟩
theorem q1924 : Cond.selects RX4 yX4_fittingAny yX4_fittingAny ∈ GW := List.mem_filter.mpr ⟨List.mem_append_left _ (List.mem_map.mpr ⟨(yX4_fittingAny, 5), List.mem_append_left _ (List.mem_of_getElem? (i := 8) (by decide +kernel)), rfl⟩), rfl⟩
theorem q1925 : Cond.selects RX9 yX9_chordsAgree yX9_chordsAgree ∈ GW := List.mem_filter.mpr ⟨List.mem_append_left _ (List.mem_map.mpr ⟨(yX9_chordsAgree, 10), List.mem_append_left _ (List.mem_of_getElem? (i := 9) (by decide +kernel)), rfl⟩), rfl⟩
theorem q1926 : Cond.selects RX1 yX1_withChosen yX1_withChosen ∈ GW := List.mem_filter.mpr ⟨List.mem_append_left _ (List.mem_map.mpr ⟨(yX1_withChosen, 4), List.mem_append_left _ (List.mem_of_getElem? (i := 10) (by decide +kernel)), rfl⟩), rfl⟩
theorem q1927 : Cond.selects RX1 yX1_pair yX1_pair ∈ GW := List.mem_filter.mpr ⟨List.mem_append_left _ (List.mem_map.mpr ⟨(yX1_pair, 4), List.mem_append_left _ (List.mem_of_getElem? (i := 11) (by decide +kernel)), rfl⟩), rfl⟩
theorem q1928 : Cond.selects RX1 yX1_greatestStillToCome yX1_greatestStillToCome ∈ GW := List.mem_filter.mpr ⟨List.mem_append_left _ (List.mem_map.mpr ⟨(yX1_greatestStillToCome, 4), List.mem_append_left _ (List.mem_of_getElem? (i := 12) (by decide +kernel)), rfl⟩), rfl⟩
theorem q1929 : Cond.selects RX1 yX1_consonanceOf yX1_consonanceOf ∈ GW := List.mem_filter.mpr ⟨List.mem_append_left _ (List.mem_map.mpr ⟨(yX1_consonanceOf, 4), List.mem_append_left _ (List.mem_of_getElem? (i := 13) (by decide +kernel)), rfl⟩), rfl⟩
theorem q1930 : Cond.selects RX9 yX9_swapsAgree yX9_swapsAgree ∈ GW := List.mem_filter.mpr ⟨List.mem_append_left _ (List.mem_map.mpr ⟨(yX9_swapsAgree, 10), List.mem_append_left _ (List.mem_of_getElem? (i := 14) (by decide +kernel)), rfl⟩), rfl⟩
theorem q1931 : Cond.selects RX8 yX8_remoteness yX8_remoteness ∈ GW := List.mem_filter.mpr ⟨List.mem_append_left _ (List.mem_map.mpr ⟨(yX8_remoteness, 10), List.mem_append_left _ (List.mem_of_getElem? (i := 15) (by decide +kernel)), rfl⟩), rfl⟩
theorem q1932 : Cond.selects RX8 yX8_openBookings yX8_openBookings ∈ GW := List.mem_filter.mpr ⟨List.mem_append_left _ (List.mem_map.mpr ⟨(yX8_openBookings, 10), List.mem_append_right _ (List.mem_append_left _ (List.mem_of_getElem? (i := 0) (by decide +kernel))), rfl⟩), rfl⟩
theorem q1933 : Cond.selects RX9 yX9_requireHammer yX9_requireHammer ∈ GW := List.mem_filter.mpr ⟨List.mem_append_left _ (List.mem_map.mpr ⟨(yX9_requireHammer, 10), List.mem_append_right _ (List.mem_append_left _ (List.mem_of_getElem? (i := 1) (by decide +kernel))), rfl⟩), rfl⟩
theorem q1934 : Cond.selects RX9 yX9_requireLent yX9_requireLent ∈ GW := List.mem_filter.mpr ⟨List.mem_append_left _ (List.mem_map.mpr ⟨(yX9_requireLent, 10), List.mem_append_right _ (List.mem_append_left _ (List.mem_of_getElem? (i := 2) (by decide +kernel))), rfl⟩), rfl⟩
theorem q1935 : Cond.selects RX9 yX9_requireInRack yX9_requireInRack ∈ GW := List.mem_filter.mpr ⟨List.mem_append_left _ (List.mem_map.mpr ⟨(yX9_requireInRack, 10), List.mem_append_right _ (List.mem_append_left _ (List.mem_of_getElem? (i := 3) (by decide +kernel))), rfl⟩), rfl⟩
theorem q1936 : Cond.selects RX9 yX9_requiredPosition yX9_requiredPosition ∈ GW := List.mem_filter.mpr ⟨List.mem_append_left _ (List.mem_map.mpr ⟨(yX9_requiredPosition, 10), List.mem_append_right _ (List.mem_append_left _ (List.mem_of_getElem? (i := 4) (by decide +kernel))), rfl⟩), rfl⟩
theorem q1937 : Cond.selects RX9 yX9_requireRack yX9_requireRack ∈ GW := List.mem_filter.mpr ⟨List.mem_append_left _ (List.mem_map.mpr ⟨(yX9_requireRack, 10), List.mem_append_right _ (List.mem_append_left _ (List.mem_of_getElem? (i := 5) (by decide +kernel))), rfl⟩), rfl⟩
theorem q1938 : Cond.selects RX9 yX9_requireChord yX9_requireChord ∈ GW := List.mem_filter.mpr ⟨List.mem_append_left _ (List.mem_map.mpr ⟨(yX9_requireChord, 10), List.mem_append_right _ (List.mem_append_left _ (List.mem_of_getElem? (i := 6) (by decide +kernel))), rfl⟩), rfl⟩
theorem q1939 : Cond.selects RX2 yX2_moreWorn yX2_moreWorn ∈ GW := List.mem_filter.mpr ⟨List.mem_append_left _ (List.mem_map.mpr ⟨(yX2_moreWorn, 7), List.mem_append_right _ (List.mem_append_left _ (List.mem_of_getElem? (i := 7) (by decide +kernel))), rfl⟩), rfl⟩
theorem q1940 : Cond.selects RX6 yX6_readCommand yX6_readCommand ∈ GW := List.mem_filter.mpr ⟨List.mem_append_left _ (List.mem_map.mpr ⟨(yX6_readCommand, 7), List.mem_append_right _ (List.mem_append_left _ (List.mem_of_getElem? (i := 8) (by decide +kernel))), rfl⟩), rfl⟩
theorem q1941 : Cond.selects RX6 yX6_readForm yX6_readForm ∈ GW := List.mem_filter.mpr ⟨List.mem_append_left _ (List.mem_map.mpr ⟨(yX6_readForm, 7), List.mem_append_right _ (List.mem_append_left _ (List.mem_of_getElem? (i := 9) (by decide +kernel))), rfl⟩), rfl⟩
theorem q1942 : Cond.selects RX6 yX6_readPart yX6_readPart ∈ GW := List.mem_filter.mpr ⟨List.mem_append_left _ (List.mem_map.mpr ⟨(yX6_readPart, 7), List.mem_append_right _ (List.mem_append_left _ (List.mem_of_getElem? (i := 10) (by decide +kernel))), rfl⟩), rfl⟩
theorem q1943 : Cond.selects RX6 yX6_readNumber yX6_readNumber ∈ GW := List.mem_filter.mpr ⟨List.mem_append_left _ (List.mem_map.mpr ⟨(yX6_readNumber, 7), List.mem_append_right _ (List.mem_append_left _ (List.mem_of_getElem? (i := 11) (by decide +kernel))), rfl⟩), rfl⟩
theorem q1944 : Cond.selects RX6 yX6_isDigitHere yX6_isDigitHere ∈ GW := List.mem_filter.mpr ⟨List.mem_append_left _ (List.mem_map.mpr ⟨(yX6_isDigitHere, 7), List.mem_append_right _ (List.mem_append_left _ (List.mem_of_getElem? (i := 12) (by decide +kernel))), rfl⟩), rfl⟩
theorem q1945 : Cond.selects RX6 yX6_store yX6_store ∈ GW := List.mem_filter.mpr ⟨List.mem_append_left _ (List.mem_map.mpr ⟨(yX6_store, 7), List.mem_append_right _ (List.mem_append_left _ (List.mem_of_getElem? (i := 13) (by decide +kernel))), rfl⟩), rfl⟩
theorem q1946 : Cond.selects RX6 yX6_readCharacter yX6_readCharacter ∈ GW := List.mem_filter.mpr ⟨List.mem_append_left _ (List.mem_map.mpr ⟨(yX6_readCharacter, 7), List.mem_append_right _ (List.mem_append_left _ (List.mem_of_getElem? (i := 14) (by decide +kernel))), rfl⟩), rfl⟩
theorem q1947 : Cond.selects RX6 yX6_readOptionalDays yX6_readOptionalDays ∈ GW := List.mem_filter.mpr ⟨List.mem_append_left _ (List.mem_map.mpr ⟨(yX6_readOptionalDays, 7), List.mem_append_right _ (List.mem_append_left _ (List.mem_of_getElem? (i := 15) (by decide +kernel))), rfl⟩), rfl⟩
theorem q1948 : Cond.selects RX9 yX9_perform yX9_perform ∈ GW := List.mem_filter.mpr ⟨List.mem_append_left _ (List.mem_map.mpr ⟨(yX9_perform, 10), List.mem_append_right _ (List.mem_append_right _ (List.mem_append_left _ (List.mem_of_getElem? (i := 0) (by decide +kernel)))), rfl⟩), rfl⟩
theorem q1949 : Cond.selects RX10 yX10_starts yX10_starts ∈ GW := List.mem_filter.mpr ⟨List.mem_append_left _ (List.mem_map.mpr ⟨(yX10_starts, 23), List.mem_append_right _ (List.mem_append_right _ (List.mem_append_left _ (List.mem_of_getElem? (i := 1) (by decide +kernel)))), rfl⟩), rfl⟩
theorem q1950 : Cond.selects RX10 yX10_hammerIt yX10_hammerIt ∈ GW := List.mem_filter.mpr ⟨List.mem_append_left _ (List.mem_map.mpr ⟨(yX10_hammerIt, 23), List.mem_append_right _ (List.mem_append_right _ (List.mem_append_left _ (List.mem_of_getElem? (i := 2) (by decide +kernel)))), rfl⟩), rfl⟩
theorem q1951 : Cond.selects RX10 yX10_throwing yX10_throwing ∈ GW := List.mem_filter.mpr ⟨List.mem_append_left _ (List.mem_map.mpr ⟨(yX10_throwing, 23), List.mem_append_right _ (List.mem_append_right _ (List.mem_append_left _ (List.mem_of_getElem? (i := 3) (by decide +kernel)))), rfl⟩), rfl⟩
theorem q1952 : Cond.selects RX10 yX10_freePlace yX10_freePlace ∈ GW := List.mem_filter.mpr ⟨List.mem_append_left _ (List.mem_map.mpr ⟨(yX10_freePlace, 23), List.mem_append_right _ (List.mem_append_right _ (List.mem_append_left _ (List.mem_of_getElem? (i := 4) (by decide +kernel)))), rfl⟩), rfl⟩
theorem q1953 : Cond.selects RX10 yX10_standing yX10_standing ∈ GW := List.mem_filter.mpr ⟨List.mem_append_left _ (List.mem_map.mpr ⟨(yX10_standing, 23), List.mem_append_right _ (List.mem_append_right _ (List.mem_append_left _ (List.mem_of_getElem? (i := 5) (by decide +kernel)))), rfl⟩), rfl⟩
theorem q1954 : Cond.selects RX10 yX10_changed yX10_changed ∈ GW := List.mem_filter.mpr ⟨List.mem_append_left _ (List.mem_map.mpr ⟨(yX10_changed, 23), List.mem_append_right _ (List.mem_append_right _ (List.mem_append_left _ (List.mem_of_getElem? (i := 6) (by decide +kernel)))), rfl⟩), rfl⟩
theorem q1955 : Cond.selects RX10 yX10_moveIt yX10_moveIt ∈ GW := List.mem_filter.mpr ⟨List.mem_append_left _ (List.mem_map.mpr ⟨(yX10_moveIt, 23), List.mem_append_right _ (List.mem_append_right _ (List.mem_append_left _ (List.mem_of_getElem? (i := 7) (by decide +kernel)))), rfl⟩), rfl⟩
theorem q1956 : Cond.selects RX10 yX10_isHammer yX10_isHammer ∈ GW := List.mem_filter.mpr ⟨List.mem_append_left _ (List.mem_map.mpr ⟨(yX10_isHammer, 23), List.mem_append_right _ (List.mem_append_right _ (List.mem_append_left _ (List.mem_of_getElem? (i := 8) (by decide +kernel)))), rfl⟩), rfl⟩
theorem q1957 : Cond.selects RX10 yX10_swapIt yX10_swapIt ∈ GW := List.mem_filter.mpr ⟨List.mem_append_left _ (List.mem_map.mpr ⟨(yX10_swapIt, 23), List.mem_append_right _ (List.mem_append_right _ (List.mem_append_left _ (List.mem_of_getElem? (i := 9) (by decide +kernel)))), rfl⟩), rfl⟩
theorem q1958 : Cond.selects RX10 yX10_swaps yX10_swaps ∈ GW := List.mem_filter.mpr ⟨List.mem_append_left _ (List.mem_map.mpr ⟨(yX10_swaps, 23), List.mem_append_right _ (List.mem_append_right _ (List.mem_append_left _ (List.mem_of_getElem? (i := 10) (by decide +kernel)))), rfl⟩), rfl⟩
theorem q1959 : Cond.selects RX10 yX10_due yX10_due ∈ GW := List.mem_filter.mpr ⟨List.mem_append_left _ (List.mem_map.mpr ⟨(yX10_due, 23), List.mem_append_right _ (List.mem_append_right _ (List.mem_append_left _ (List.mem_of_getElem? (i := 11) (by decide +kernel)))), rfl⟩), rfl⟩
theorem q1960 : Cond.selects RX10 yX10_beginsCycle yX10_beginsCycle ∈ GW := List.mem_filter.mpr ⟨List.mem_append_left _ (List.mem_map.mpr ⟨(yX10_beginsCycle, 23), List.mem_append_right _ (List.mem_append_right _ (List.mem_append_left _ (List.mem_of_getElem? (i := 12) (by decide +kernel)))), rfl⟩), rfl⟩
theorem q1961 : Cond.selects RX10 yX10_askIt yX10_askIt ∈ GW := List.mem_filter.mpr ⟨List.mem_append_left _ (List.mem_map.mpr ⟨(yX10_askIt, 23), List.mem_append_right _ (List.mem_append_right _ (List.mem_append_left _ (List.mem_of_getElem? (i := 13) (by decide +kernel)))), rfl⟩), rfl⟩
theorem q1962 : Cond.selects RX10 yX10_dropIt yX10_dropIt ∈ GW := List.mem_filter.mpr ⟨List.mem_append_left _ (List.mem_map.mpr ⟨(yX10_dropIt, 23), List.mem_append_right _ (List.mem_append_right _ (List.mem_append_left _ (List.mem_of_getElem? (i := 14) (by decide +kernel)))), rfl⟩), rfl⟩
theorem q1963 : Cond.selects RX10 yX10_find yX10_find ∈ GW := List.mem_filter.mpr ⟨List.mem_append_left _ (List.mem_map.mpr ⟨(yX10_find, 23), List.mem_append_right _ (List.mem_append_right _ (List.mem_append_left _ (List.mem_of_getElem? (i := 15) (by decide +kernel)))), rfl⟩), rfl⟩
theorem q1964 : Cond.selects RX10 yX10_dropsRequest yX10_dropsRequest ∈ GW := List.mem_filter.mpr ⟨List.mem_append_left _ (List.mem_map.mpr ⟨(yX10_dropsRequest, 23), List.mem_append_right _ (List.mem_append_right _ (List.mem_append_right _ (List.mem_append_left _ (List.mem_of_getElem? (i := 0) (by decide +kernel))))), rfl⟩), rfl⟩
theorem q1965 : Cond.selects RX10 yX10_grantIt yX10_grantIt ∈ GW := List.mem_filter.mpr ⟨List.mem_append_left _ (List.mem_map.mpr ⟨(yX10_grantIt, 23), List.mem_append_right _ (List.mem_append_right _ (List.mem_append_right _ (List.mem_append_left _ (List.mem_of_getElem? (i := 1) (by decide +kernel))))), rfl⟩), rfl⟩
theorem q1966 : Cond.selects RX10 yX10_best yX10_best ∈ GW := List.mem_filter.mpr ⟨List.mem_append_left _ (List.mem_map.mpr ⟨(yX10_best, 23), List.mem_append_right _ (List.mem_append_right _ (List.mem_append_right _ (List.mem_append_left _ (List.mem_of_getElem? (i := 2) (by decide +kernel))))), rfl⟩), rfl⟩
theorem q1967 : Cond.selects RX10 yX10_may yX10_may ∈ GW := List.mem_filter.mpr ⟨List.mem_append_left _ (List.mem_map.mpr ⟨(yX10_may, 23), List.mem_append_right _ (List.mem_append_right _ (List.mem_append_right _ (List.mem_append_left _ (List.mem_of_getElem? (i := 3) (by decide +kernel))))), rfl⟩), rfl⟩
theorem q1968 : Cond.selects RX10 yX10_isFree yX10_isFree ∈ GW := List.mem_filter.mpr ⟨List.mem_append_left _ (List.mem_map.mpr ⟨(yX10_isFree, 23), List.mem_append_right _ (List.mem_append_right _ (List.mem_append_right _ (List.mem_append_left _ (List.mem_of_getElem? (i := 4) (by decide +kernel))))), rfl⟩), rfl⟩
theorem q1969 : Cond.selects RX10 yX10_books yX10_books ∈ GW := List.mem_filter.mpr ⟨List.mem_append_left _ (List.mem_map.mpr ⟨(yX10_books, 23), List.mem_append_right _ (List.mem_append_right _ (List.mem_append_right _ (List.mem_append_left _ (List.mem_of_getElem? (i := 5) (by decide +kernel))))), rfl⟩), rfl⟩
theorem q1970 : Cond.selects RX10 yX10_mostIt yX10_mostIt ∈ GW := List.mem_filter.mpr ⟨List.mem_append_left _ (List.mem_map.mpr ⟨(yX10_mostIt, 23), List.mem_append_right _ (List.mem_append_right _ (List.mem_append_right _ (List.mem_append_left _ (List.mem_of_getElem? (i := 6) (by decide +kernel))))), rfl⟩), rfl⟩
theorem q1971 : Cond.selects RX10 yX10_mostNow yX10_mostNow ∈ GW := List.mem_filter.mpr ⟨List.mem_append_left _ (List.mem_map.mpr ⟨(yX10_mostNow, 23), List.mem_append_right _ (List.mem_append_right _ (List.mem_append_right _ (List.mem_append_left _ (List.mem_of_getElem? (i := 7) (by decide +kernel))))), rfl⟩), rfl⟩
theorem q1972 : Cond.selects RX10 yX10_worksFitting yX10_worksFitting ∈ GW := List.mem_filter.mpr ⟨List.mem_append_left _ (List.mem_map.mpr ⟨(yX10_worksFitting, 23), List.mem_append_right _ (List.mem_append_right _ (List.mem_append_right _ (List.mem_append_left _ (List.mem_of_getElem? (i := 8) (by decide +kernel))))), rfl⟩), rfl⟩
theorem q1973 : Cond.selects RX10 yX10_most yX10_most ∈ GW := List.mem_filter.mpr ⟨List.mem_append_left _ (List.mem_map.mpr ⟨(yX10_most, 23), List.mem_append_right _ (List.mem_append_right _ (List.mem_append_right _ (List.mem_append_left _ (List.mem_of_getElem? (i := 9) (by decide +kernel))))), rfl⟩), rfl⟩
theorem q1974 : Cond.selects RX10 yX10_grantsGiven yX10_grantsGiven ∈ GW := List.mem_filter.mpr ⟨List.mem_append_left _ (List.mem_map.mpr ⟨(yX10_grantsGiven, 23), List.mem_append_right _ (List.mem_append_right _ (List.mem_append_right _ (List.mem_append_left _ (List.mem_of_getElem? (i := 10) (by decide +kernel))))), rfl⟩), rfl⟩
theorem q1975 : Cond.selects RX10 yX10_backIt yX10_backIt ∈ GW := List.mem_filter.mpr ⟨List.mem_append_left _ (List.mem_map.mpr ⟨(yX10_backIt, 23), List.mem_append_right _ (List.mem_append_right _ (List.mem_append_right _ (List.mem_append_left _ (List.mem_of_getElem? (i := 11) (by decide +kernel))))), rfl⟩), rfl⟩
theorem q1976 : Cond.selects RX10 yX10_faceIt yX10_faceIt ∈ GW := List.mem_filter.mpr ⟨List.mem_append_left _ (List.mem_map.mpr ⟨(yX10_faceIt, 23), List.mem_append_right _ (List.mem_append_right _ (List.mem_append_right _ (List.mem_append_left _ (List.mem_of_getElem? (i := 12) (by decide +kernel))))), rfl⟩), rfl⟩
theorem q1977 : Cond.selects RX10 yX10_daysIt yX10_daysIt ∈ GW := List.mem_filter.mpr ⟨List.mem_append_left _ (List.mem_map.mpr ⟨(yX10_daysIt, 23), List.mem_append_right _ (List.mem_append_right _ (List.mem_append_right _ (List.mem_append_left _ (List.mem_of_getElem? (i := 13) (by decide +kernel))))), rfl⟩), rfl⟩
theorem q1978 : Cond.selects RX10 yX10_passesDay yX10_passesDay ∈ GW := List.mem_filter.mpr ⟨List.mem_append_left _ (List.mem_map.mpr ⟨(yX10_passesDay, 23), List.mem_append_right _ (List.mem_append_right _ (List.mem_append_right _ (List.mem_append_left _ (List.mem_of_getElem? (i := 14) (by decide +kernel))))), rfl⟩), rfl⟩
theorem q1979 : Cond.selects RX10 yX10_dropsBooking yX10_dropsBooking ∈ GW := List.mem_filter.mpr ⟨List.mem_append_left _ (List.mem_map.mpr ⟨(yX10_dropsBooking, 23), List.mem_append_right _ (List.mem_append_right _ (List.mem_append_right _ (List.mem_append_left _ (List.mem_of_getElem? (i := 15) (by decide +kernel))))), rfl⟩), rfl⟩
theorem q1980 : Cond.selects RX10 yX10_total yX10_total ∈ GW := List.mem_filter.mpr ⟨List.mem_append_left _ (List.mem_map.mpr ⟨(yX10_total, 23), List.mem_append_right _ (List.mem_append_right _ (List.mem_append_right _ (List.mem_append_right _ (List.mem_append_left _ (List.mem_of_getElem? (i := 0) (by decide +kernel)))))), rfl⟩), rfl⟩
theorem q1981 : Cond.selects RX10 yX10_ofHammer yX10_ofHammer ∈ GW := List.mem_filter.mpr ⟨List.mem_append_left _ (List.mem_map.mpr ⟨(yX10_ofHammer, 23), List.mem_append_right _ (List.mem_append_right _ (List.mem_append_right _ (List.mem_append_right _ (List.mem_append_left _ (List.mem_of_getElem? (i := 1) (by decide +kernel)))))), rfl⟩), rfl⟩
theorem q1982 : Cond.selects RX10 yX10_ofHammerIf yX10_ofHammerIf ∈ GW := List.mem_filter.mpr ⟨List.mem_append_left _ (List.mem_map.mpr ⟨(yX10_ofHammerIf, 23), List.mem_append_right _ (List.mem_append_right _ (List.mem_append_right _ (List.mem_append_right _ (List.mem_append_left _ (List.mem_of_getElem? (i := 2) (by decide +kernel)))))), rfl⟩), rfl⟩
theorem q1983 : Cond.selects RX10 yX10_loudIn yX10_loudIn ∈ GW := List.mem_filter.mpr ⟨List.mem_append_left _ (List.mem_map.mpr ⟨(yX10_loudIn, 23), List.mem_append_right _ (List.mem_append_right _ (List.mem_append_right _ (List.mem_append_right _ (List.mem_append_left _ (List.mem_of_getElem? (i := 3) (by decide +kernel)))))), rfl⟩), rfl⟩
theorem q1984 : Cond.selects RX10 yX10_many yX10_many ∈ GW := List.mem_filter.mpr ⟨List.mem_append_left _ (List.mem_map.mpr ⟨(yX10_many, 23), List.mem_append_right _ (List.mem_append_right _ (List.mem_append_right _ (List.mem_append_right _ (List.mem_append_left _ (List.mem_of_getElem? (i := 4) (by decide +kernel)))))), rfl⟩), rfl⟩
theorem q1985 : Cond.selects RX10 yX10_sound yX10_sound ∈ GW := List.mem_filter.mpr ⟨List.mem_append_left _ (List.mem_map.mpr ⟨(yX10_sound, 23), List.mem_append_right _ (List.mem_append_right _ (List.mem_append_right _ (List.mem_append_right _ (List.mem_append_left _ (List.mem_of_getElem? (i := 5) (by decide +kernel)))))), rfl⟩), rfl⟩
theorem q1986 : Cond.selects RX10 yX10_chord yX10_chord ∈ GW := List.mem_filter.mpr ⟨List.mem_append_left _ (List.mem_map.mpr ⟨(yX10_chord, 23), List.mem_append_right _ (List.mem_append_right _ (List.mem_append_right _ (List.mem_append_right _ (List.mem_append_left _ (List.mem_of_getElem? (i := 6) (by decide +kernel)))))), rfl⟩), rfl⟩
theorem q1987 : Cond.selects RX10 yX10_sign yX10_sign ∈ GW := List.mem_filter.mpr ⟨List.mem_append_left _ (List.mem_map.mpr ⟨(yX10_sign, 23), List.mem_append_right _ (List.mem_append_right _ (List.mem_append_right _ (List.mem_append_right _ (List.mem_append_left _ (List.mem_of_getElem? (i := 7) (by decide +kernel)))))), rfl⟩), rfl⟩
theorem q1988 : Cond.selects RX10 yX10_writesNumber yX10_writesNumber ∈ GW := List.mem_filter.mpr ⟨List.mem_append_left _ (List.mem_map.mpr ⟨(yX10_writesNumber, 23), List.mem_append_right _ (List.mem_append_right _ (List.mem_append_right _ (List.mem_append_right _ (List.mem_append_left _ (List.mem_of_getElem? (i := 8) (by decide +kernel)))))), rfl⟩), rfl⟩
theorem q1989 : Cond.selects RX10 yX10_writes yX10_writes ∈ GW := List.mem_filter.mpr ⟨List.mem_append_left _ (List.mem_map.mpr ⟨(yX10_writes, 23), List.mem_append_right _ (List.mem_append_right _ (List.mem_append_right _ (List.mem_append_right _ (List.mem_append_left _ (List.mem_of_getElem? (i := 9) (by decide +kernel)))))), rfl⟩), rfl⟩
theorem q1990 : Cond.selects RX10 yX10_readCommand yX10_readCommand ∈ GW := List.mem_filter.mpr ⟨List.mem_append_left _ (List.mem_map.mpr ⟨(yX10_readCommand, 23), List.mem_append_right _ (List.mem_append_right _ (List.mem_append_right _ (List.mem_append_right _ (List.mem_append_left _ (List.mem_of_getElem? (i := 10) (by decide +kernel)))))), rfl⟩), rfl⟩
theorem q1991 : Cond.selects RX10 yX10_likeness yX10_likeness ∈ GW := List.mem_filter.mpr ⟨List.mem_append_left _ (List.mem_map.mpr ⟨(yX10_likeness, 23), List.mem_append_right _ (List.mem_append_right _ (List.mem_append_right _ (List.mem_append_right _ (List.mem_append_left _ (List.mem_of_getElem? (i := 11) (by decide +kernel)))))), rfl⟩), rfl⟩
theorem q1992 : Cond.selects RX10 yX10_readArguments yX10_readArguments ∈ GW := List.mem_filter.mpr ⟨List.mem_append_left _ (List.mem_map.mpr ⟨(yX10_readArguments, 23), List.mem_append_right _ (List.mem_append_right _ (List.mem_append_right _ (List.mem_append_right _ (List.mem_append_left _ (List.mem_of_getElem? (i := 12) (by decide +kernel)))))), rfl⟩), rfl⟩
theorem q1993 : Cond.selects RX10 yX10_number yX10_number ∈ GW := List.mem_filter.mpr ⟨List.mem_append_left _ (List.mem_map.mpr ⟨(yX10_number, 23), List.mem_append_right _ (List.mem_append_right _ (List.mem_append_right _ (List.mem_append_right _ (List.mem_append_left _ (List.mem_of_getElem? (i := 13) (by decide +kernel)))))), rfl⟩), rfl⟩
theorem q1994 : Cond.selects RX10 yX10_digit yX10_digit ∈ GW := List.mem_filter.mpr ⟨List.mem_append_left _ (List.mem_map.mpr ⟨(yX10_digit, 23), List.mem_append_right _ (List.mem_append_right _ (List.mem_append_right _ (List.mem_append_right _ (List.mem_append_left _ (List.mem_of_getElem? (i := 14) (by decide +kernel)))))), rfl⟩), rfl⟩
theorem q1995 : Cond.selects RX10 yX10_here yX10_here ∈ GW := List.mem_filter.mpr ⟨List.mem_append_left _ (List.mem_map.mpr ⟨(yX10_here, 23), List.mem_append_right _ (List.mem_append_right _ (List.mem_append_right _ (List.mem_append_right _ (List.mem_append_left _ (List.mem_of_getElem? (i := 15) (by decide +kernel)))))), rfl⟩), rfl⟩
theorem q1996 : Cond.selects RX10 yX10_digitBehind yX10_digitBehind ∈ GW := List.mem_filter.mpr ⟨List.mem_append_left _ (List.mem_map.mpr ⟨(yX10_digitBehind, 23), List.mem_append_right _ (List.mem_append_right _ (List.mem_append_right _ (List.mem_append_right _ (List.mem_append_right _ (List.mem_of_getElem? (i := 0) (by decide +kernel)))))), rfl⟩), rfl⟩
theorem q1997 : Cond.selects RX10 yX10_expects yX10_expects ∈ GW := List.mem_filter.mpr ⟨List.mem_append_left _ (List.mem_map.mpr ⟨(yX10_expects, 23), List.mem_append_right _ (List.mem_append_right _ (List.mem_append_right _ (List.mem_append_right _ (List.mem_append_right _ (List.mem_of_getElem? (i := 1) (by decide +kernel)))))), rfl⟩), rfl⟩
theorem q1998 : Cond.selects RX10 yX10_readAsk yX10_readAsk ∈ GW := List.mem_filter.mpr ⟨List.mem_append_left _ (List.mem_map.mpr ⟨(yX10_readAsk, 23), List.mem_append_right _ (List.mem_append_right _ (List.mem_append_right _ (List.mem_append_right _ (List.mem_append_right _ (List.mem_of_getElem? (i := 2) (by decide +kernel)))))), rfl⟩), rfl⟩
theorem q1999 : Cond.selects RX10 yX10_numberBehind yX10_numberBehind ∈ GW := List.mem_filter.mpr ⟨List.mem_append_left _ (List.mem_map.mpr ⟨(yX10_numberBehind, 23), List.mem_append_right _ (List.mem_append_right _ (List.mem_append_right _ (List.mem_append_right _ (List.mem_append_right _ (List.mem_of_getElem? (i := 3) (by decide +kernel)))))), rfl⟩), rfl⟩
theorem q2000 : Cond.selects RX10 yX10_does yX10_does ∈ GW := List.mem_filter.mpr ⟨List.mem_append_left _ (List.mem_map.mpr ⟨(yX10_does, 23), List.mem_append_right _ (List.mem_append_right _ (List.mem_append_right _ (List.mem_append_right _ (List.mem_append_right _ (List.mem_of_getElem? (i := 4) (by decide +kernel)))))), rfl⟩), rfl⟩
theorem inX0 : ∀ w ∈ u_ws RX0 TX0 5, w ∈ GW := by
  have h : ∀ k, k < 5 → u_lay RX0 TX0 k ∈ GW := fun k hk => match k, hk with
    | 0, _ => gw1 (List.mem_of_getElem? (i := 123) (by decide +kernel)) rfl
    | 1, _ => gw1 (List.mem_of_getElem? (i := 125) (by decide +kernel)) rfl
    | 2, _ => gw1 (List.mem_of_getElem? (i := 127) (by decide +kernel)) rfl
    | 3, _ => gw1 (List.mem_of_getElem? (i := 129) (by decide +kernel)) rfl
    | 4, _ => gw1 (List.mem_of_getElem? (i := 131) (by decide +kernel)) rfl
    | k + 5, hk => absurd hk (by omega)
  intro w hw
  obtain ⟨k, hk, rfl⟩ := List.mem_map.mp hw
  exact h k (List.mem_range.mp hk)
theorem inX1 : ∀ w ∈ u_ws RX1 TX1 4, w ∈ GW := by
  have h : ∀ k, k < 4 → u_lay RX1 TX1 k ∈ GW := fun k hk => match k, hk with
    | 0, _ => gw1 (List.mem_of_getElem? (i := 228) (by decide +kernel)) rfl
    | 1, _ => gw1 (List.mem_of_getElem? (i := 230) (by decide +kernel)) rfl
    | 2, _ => gw1 (List.mem_of_getElem? (i := 232) (by decide +kernel)) rfl
    | 3, _ => gw1 (List.mem_of_getElem? (i := 234) (by decide +kernel)) rfl
    | k + 4, hk => absurd hk (by omega)
  intro w hw
  obtain ⟨k, hk, rfl⟩ := List.mem_map.mp hw
  exact h k (List.mem_range.mp hk)
theorem inX2 : ∀ w ∈ u_ws RX2 TX2 7, w ∈ GW := by
  have h : ∀ k, k < 7 → u_lay RX2 TX2 k ∈ GW := fun k hk => match k, hk with
    | 0, _ => gw1 (List.mem_of_getElem? (i := 65) (by decide +kernel)) rfl
    | 1, _ => gw1 (List.mem_of_getElem? (i := 67) (by decide +kernel)) rfl
    | 2, _ => gw1 (List.mem_of_getElem? (i := 69) (by decide +kernel)) rfl
    | 3, _ => gw1 (List.mem_of_getElem? (i := 71) (by decide +kernel)) rfl
    | 4, _ => gw1 (List.mem_of_getElem? (i := 73) (by decide +kernel)) rfl
    | 5, _ => gw1 (List.mem_of_getElem? (i := 75) (by decide +kernel)) rfl
    | 6, _ => gw1 (List.mem_of_getElem? (i := 77) (by decide +kernel)) rfl
    | k + 7, hk => absurd hk (by omega)
  intro w hw
  obtain ⟨k, hk, rfl⟩ := List.mem_map.mp hw
  exact h k (List.mem_range.mp hk)
theorem inX3 : ∀ w ∈ u_ws RX3 TX3 3, w ∈ GW := by
  have h : ∀ k, k < 3 → u_lay RX3 TX3 k ∈ GW := fun k hk => match k, hk with
    | 0, _ => gw1 (List.mem_of_getElem? (i := 189) (by decide +kernel)) rfl
    | 1, _ => gw1 (List.mem_of_getElem? (i := 191) (by decide +kernel)) rfl
    | 2, _ => gw1 (List.mem_of_getElem? (i := 193) (by decide +kernel)) rfl
    | k + 3, hk => absurd hk (by omega)
  intro w hw
  obtain ⟨k, hk, rfl⟩ := List.mem_map.mp hw
  exact h k (List.mem_range.mp hk)
theorem inX4 : ∀ w ∈ u_ws RX4 TX4 5, w ∈ GW := by
  have h : ∀ k, k < 5 → u_lay RX4 TX4 k ∈ GW := fun k hk => match k, hk with
    | 0, _ => gw1 (List.mem_of_getElem? (i := 207) (by decide +kernel)) rfl
    | 1, _ => gw1 (List.mem_of_getElem? (i := 209) (by decide +kernel)) rfl
    | 2, _ => gw1 (List.mem_of_getElem? (i := 211) (by decide +kernel)) rfl
    | 3, _ => gw1 (List.mem_of_getElem? (i := 213) (by decide +kernel)) rfl
    | 4, _ => gw1 (List.mem_of_getElem? (i := 215) (by decide +kernel)) rfl
    | k + 5, hk => absurd hk (by omega)
  intro w hw
  obtain ⟨k, hk, rfl⟩ := List.mem_map.mp hw
  exact h k (List.mem_range.mp hk)
theorem inX5 : ∀ w ∈ u_ws RX5 TX5 8, w ∈ GW := by
  have h : ∀ k, k < 8 → u_lay RX5 TX5 k ∈ GW := fun k hk => match k, hk with
    | 0, _ => gw1 (List.mem_of_getElem? (i := 95) (by decide +kernel)) rfl
    | 1, _ => gw1 (List.mem_of_getElem? (i := 97) (by decide +kernel)) rfl
    | 2, _ => gw1 (List.mem_of_getElem? (i := 99) (by decide +kernel)) rfl
    | 3, _ => gw1 (List.mem_of_getElem? (i := 101) (by decide +kernel)) rfl
    | 4, _ => gw1 (List.mem_of_getElem? (i := 103) (by decide +kernel)) rfl
    | 5, _ => gw1 (List.mem_of_getElem? (i := 105) (by decide +kernel)) rfl
    | 6, _ => gw1 (List.mem_of_getElem? (i := 107) (by decide +kernel)) rfl
    | 7, _ => gw1 (List.mem_of_getElem? (i := 109) (by decide +kernel)) rfl
    | k + 8, hk => absurd hk (by omega)
  intro w hw
  obtain ⟨k, hk, rfl⟩ := List.mem_map.mp hw
  exact h k (List.mem_range.mp hk)
theorem inX6 : ∀ w ∈ u_ws RX6 TX6 7, w ∈ GW := by
  have h : ∀ k, k < 7 → u_lay RX6 TX6 k ∈ GW := fun k hk => match k, hk with
    | 0, _ => gw2 (List.mem_of_getElem? (i := 10) (by decide +kernel)) rfl
    | 1, _ => gw2 (List.mem_of_getElem? (i := 12) (by decide +kernel)) rfl
    | 2, _ => gw2 (List.mem_of_getElem? (i := 14) (by decide +kernel)) rfl
    | 3, _ => gw2 (List.mem_of_getElem? (i := 16) (by decide +kernel)) rfl
    | 4, _ => gw2 (List.mem_of_getElem? (i := 18) (by decide +kernel)) rfl
    | 5, _ => gw2 (List.mem_of_getElem? (i := 20) (by decide +kernel)) rfl
    | 6, _ => gw2 (List.mem_of_getElem? (i := 22) (by decide +kernel)) rfl
    | k + 7, hk => absurd hk (by omega)
  intro w hw
  obtain ⟨k, hk, rfl⟩ := List.mem_map.mp hw
  exact h k (List.mem_range.mp hk)
theorem inX8 : ∀ w ∈ u_ws RX8 TX8 10, w ∈ GW := by
  have h : ∀ k, k < 10 → u_lay RX8 TX8 k ∈ GW := fun k hk => match k, hk with
    | 0, _ => gw1 (List.mem_of_getElem? (i := 156) (by decide +kernel)) rfl
    | 1, _ => gw1 (List.mem_of_getElem? (i := 158) (by decide +kernel)) rfl
    | 2, _ => gw1 (List.mem_of_getElem? (i := 160) (by decide +kernel)) rfl
    | 3, _ => gw1 (List.mem_of_getElem? (i := 162) (by decide +kernel)) rfl
    | 4, _ => gw1 (List.mem_of_getElem? (i := 164) (by decide +kernel)) rfl
    | 5, _ => gw1 (List.mem_of_getElem? (i := 166) (by decide +kernel)) rfl
    | 6, _ => gw1 (List.mem_of_getElem? (i := 168) (by decide +kernel)) rfl
    | 7, _ => gw1 (List.mem_of_getElem? (i := 170) (by decide +kernel)) rfl
    | 8, _ => gw1 (List.mem_of_getElem? (i := 172) (by decide +kernel)) rfl
    | 9, _ => gw1 (List.mem_of_getElem? (i := 174) (by decide +kernel)) rfl
    | k + 10, hk => absurd hk (by omega)
  intro w hw
  obtain ⟨k, hk, rfl⟩ := List.mem_map.mp hw
  exact h k (List.mem_range.mp hk)
theorem inX9 : ∀ w ∈ u_ws RX9 TX9 10, w ∈ GW := by
  have h : ∀ k, k < 10 → u_lay RX9 TX9 k ∈ GW := fun k hk => match k, hk with
    | 0, _ => gw2 (List.mem_of_getElem? (i := 69) (by decide +kernel)) rfl
    | 1, _ => gw2 (List.mem_of_getElem? (i := 71) (by decide +kernel)) rfl
    | 2, _ => gw2 (List.mem_of_getElem? (i := 73) (by decide +kernel)) rfl
    | 3, _ => gw2 (List.mem_of_getElem? (i := 75) (by decide +kernel)) rfl
    | 4, _ => gw2 (List.mem_of_getElem? (i := 77) (by decide +kernel)) rfl
    | 5, _ => gw2 (List.mem_of_getElem? (i := 79) (by decide +kernel)) rfl
    | 6, _ => gw2 (List.mem_of_getElem? (i := 81) (by decide +kernel)) rfl
    | 7, _ => gw2 (List.mem_of_getElem? (i := 83) (by decide +kernel)) rfl
    | 8, _ => gw2 (List.mem_of_getElem? (i := 85) (by decide +kernel)) rfl
    | 9, _ => gw2 (List.mem_of_getElem? (i := 87) (by decide +kernel)) rfl
    | k + 10, hk => absurd hk (by omega)
  intro w hw
  obtain ⟨k, hk, rfl⟩ := List.mem_map.mp hw
  exact h k (List.mem_range.mp hk)
theorem inX10 : ∀ w ∈ u_ws RX10 TX10 23, w ∈ GW := by
  have h : ∀ k, k < 23 → u_lay RX10 TX10 k ∈ GW := fun k hk => match k, hk with
    | 0, _ => gw8 (List.mem_of_getElem? (i := 116) (by decide +kernel)) rfl
    | 1, _ => gw8 (List.mem_of_getElem? (i := 118) (by decide +kernel)) rfl
    | 2, _ => gw8 (List.mem_of_getElem? (i := 120) (by decide +kernel)) rfl
    | 3, _ => gw8 (List.mem_of_getElem? (i := 122) (by decide +kernel)) rfl
    | 4, _ => gw8 (List.mem_of_getElem? (i := 124) (by decide +kernel)) rfl
    | 5, _ => gw8 (List.mem_of_getElem? (i := 126) (by decide +kernel)) rfl
    | 6, _ => gw8 (List.mem_of_getElem? (i := 128) (by decide +kernel)) rfl
    | 7, _ => gw8 (List.mem_of_getElem? (i := 130) (by decide +kernel)) rfl
    | 8, _ => gw8 (List.mem_of_getElem? (i := 132) (by decide +kernel)) rfl
    | 9, _ => gw8 (List.mem_of_getElem? (i := 134) (by decide +kernel)) rfl
    | 10, _ => gw8 (List.mem_of_getElem? (i := 136) (by decide +kernel)) rfl
    | 11, _ => gw8 (List.mem_of_getElem? (i := 138) (by decide +kernel)) rfl
    | 12, _ => gw8 (List.mem_of_getElem? (i := 140) (by decide +kernel)) rfl
    | 13, _ => gw8 (List.mem_of_getElem? (i := 142) (by decide +kernel)) rfl
    | 14, _ => gw8 (List.mem_of_getElem? (i := 144) (by decide +kernel)) rfl
    | 15, _ => gw8 (List.mem_of_getElem? (i := 146) (by decide +kernel)) rfl
    | 16, _ => gw8 (List.mem_of_getElem? (i := 148) (by decide +kernel)) rfl
    | 17, _ => gw8 (List.mem_of_getElem? (i := 150) (by decide +kernel)) rfl
    | 18, _ => gw8 (List.mem_of_getElem? (i := 152) (by decide +kernel)) rfl
    | 19, _ => gw8 (List.mem_of_getElem? (i := 154) (by decide +kernel)) rfl
    | 20, _ => gw8 (List.mem_of_getElem? (i := 156) (by decide +kernel)) rfl
    | 21, _ => gw8 (List.mem_of_getElem? (i := 158) (by decide +kernel)) rfl
    | 22, _ => gw8 (List.mem_of_getElem? (i := 160) (by decide +kernel)) rfl
    | k + 23, hk => absurd hk (by omega)
  intro w hw
  obtain ⟨k, hk, rfl⟩ := List.mem_map.mp hw
  exact h k (List.mem_range.mp hk)
theorem inJx00060 : ∀ w ∈ u_ws RJx00060 TJx00060 6, w ∈ GW := by
  have h : ∀ k, k < 6 → u_lay RJx00060 TJx00060 k ∈ GW := fun k hk => match k, hk with
    | 0, _ => gw4 (List.mem_of_getElem? (i := 100) (by decide +kernel)) rfl
    | 1, _ => gw4 (List.mem_of_getElem? (i := 101) (by decide +kernel)) rfl
    | 2, _ => gw4 (List.mem_of_getElem? (i := 102) (by decide +kernel)) rfl
    | 3, _ => gw4 (List.mem_of_getElem? (i := 103) (by decide +kernel)) rfl
    | 4, _ => gw4 (List.mem_of_getElem? (i := 104) (by decide +kernel)) rfl
    | 5, _ => gw4 (List.mem_of_getElem? (i := 105) (by decide +kernel)) rfl
    | k + 6, hk => absurd hk (by omega)
  intro w hw
  obtain ⟨k, hk, rfl⟩ := List.mem_map.mp hw
  exact h k (List.mem_range.mp hk)
theorem inJ0 : ∀ w ∈ u_ws RJ0 TJ0 4, w ∈ GW := by
  have h : ∀ k, k < 4 → u_lay RJ0 TJ0 k ∈ GW := fun k hk => match k, hk with
    | 0, _ => gw4 (List.mem_of_getElem? (i := 112) (by decide +kernel)) rfl
    | 1, _ => gw4 (List.mem_of_getElem? (i := 114) (by decide +kernel)) rfl
    | 2, _ => gw7 (List.mem_of_getElem? (i := 77) (by decide +kernel)) rfl
    | 3, _ => gw7 (List.mem_of_getElem? (i := 79) (by decide +kernel)) rfl
    | k + 4, hk => absurd hk (by omega)
  intro w hw
  obtain ⟨k, hk, rfl⟩ := List.mem_map.mp hw
  exact h k (List.mem_range.mp hk)
theorem inJ4 : ∀ w ∈ u_ws RJ4 TJ4 4, w ∈ GW := by
  have h : ∀ k, k < 4 → u_lay RJ4 TJ4 k ∈ GW := fun k hk => match k, hk with
    | 0, _ => gw2 (List.mem_of_getElem? (i := 49) (by decide +kernel)) rfl
    | 1, _ => gw2 (List.mem_of_getElem? (i := 51) (by decide +kernel)) rfl
    | 2, _ => gw2 (List.mem_of_getElem? (i := 53) (by decide +kernel)) rfl
    | 3, _ => gw2 (List.mem_of_getElem? (i := 55) (by decide +kernel)) rfl
    | k + 4, hk => absurd hk (by omega)
  intro w hw
  obtain ⟨k, hk, rfl⟩ := List.mem_map.mp hw
  exact h k (List.mem_range.mp hk)
theorem inJx7c733 : ∀ w ∈ u_ws RJx7c733 TJx7c733 6, w ∈ GW := by
  have h : ∀ k, k < 6 → u_lay RJx7c733 TJx7c733 k ∈ GW := fun k hk => match k, hk with
    | 0, _ => gw7 (List.mem_of_getElem? (i := 83) (by decide +kernel)) rfl
    | 1, _ => gw7 (List.mem_of_getElem? (i := 84) (by decide +kernel)) rfl
    | 2, _ => gw7 (List.mem_of_getElem? (i := 85) (by decide +kernel)) rfl
    | 3, _ => gw7 (List.mem_of_getElem? (i := 86) (by decide +kernel)) rfl
    | 4, _ => gw7 (List.mem_of_getElem? (i := 87) (by decide +kernel)) rfl
    | 5, _ => gw7 (List.mem_of_getElem? (i := 88) (by decide +kernel)) rfl
    | k + 6, hk => absurd hk (by omega)
  intro w hw
  obtain ⟨k, hk, rfl⟩ := List.mem_map.mp hw
  exact h k (List.mem_range.mp hk)

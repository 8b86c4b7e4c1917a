theorem th_IllegalArgumentException : jTh RX9 111 "java/lang/IllegalArgumentException" ["java/lang/RuntimeException", "java/lang/Exception"] := by
  refine ⟨?_, ?_, by decide +kernel, by decide +kernel⟩
  · have e : (vx_atS RX9 111 "java/lang/IllegalArgumentException" ["java/lang/RuntimeException", "java/lang/Exception"]).filter goodWord = ([101, 596, 605, 614, 617, 619, 597, 598, 126, 127, 599, 604, 615, 635, 586, 636, 588, 637, 590, 600, 602, 592, 631, 632, 634, 592, 622, 623, 624, 625, 625, 626, 627, 628, 628, 629, 630, 631, 621, 575, 583, 584, 585, 587, 589, 591, 595, 594, 593] : List Nat).filterMap (fun i => lw_tbl[i]?) := by decide +kernel
    intro w hw
    have g := (List.mem_filter.mp hw).2
    rw [e] at hw
    obtain ⟨i, -, hi⟩ := List.mem_filterMap.mp hw
    exact List.mem_filter.mpr ⟨List.mem_of_getElem? hi, g⟩
  · have e : (vx_atS RX9 111 "java/lang/IllegalArgumentException" ["java/lang/RuntimeException", "java/lang/Exception"]).filter (fun w => !goodWord w) = ([21, 23, 25, 19] : List Nat).filterMap (fun i => NW[i]?) := by decide +kernel
    intro w hw
    rw [e] at hw
    obtain ⟨i, -, hi⟩ := List.mem_filterMap.mp hw
    exact List.mem_of_getElem? hi
theorem th_IndexOutOfBoundsException : jTh RX9 118 "java/lang/IndexOutOfBoundsException" ["java/lang/RuntimeException", "java/lang/Exception"] := by
  refine ⟨?_, ?_, by decide +kernel, by decide +kernel⟩
  · have e : (vx_atS RX9 118 "java/lang/IndexOutOfBoundsException" ["java/lang/RuntimeException", "java/lang/Exception"]).filter goodWord = ([101, 596, 605, 614, 617, 619, 597, 598, 126, 127, 599, 604, 615, 635, 586, 636, 588, 637, 590, 600, 602, 592, 631, 632, 634, 592, 657, 658, 659, 625, 625, 626, 627, 628, 628, 629, 630, 631, 656, 647, 649, 610, 650, 651, 652, 653, 595, 594, 654] : List Nat).filterMap (fun i => lw_tbl[i]?) := by decide +kernel
    intro w hw
    have g := (List.mem_filter.mp hw).2
    rw [e] at hw
    obtain ⟨i, -, hi⟩ := List.mem_filterMap.mp hw
    exact List.mem_filter.mpr ⟨List.mem_of_getElem? hi, g⟩
  · have e : (vx_atS RX9 118 "java/lang/IndexOutOfBoundsException" ["java/lang/RuntimeException", "java/lang/Exception"]).filter (fun w => !goodWord w) = ([21, 23, 25, 26] : List Nat).filterMap (fun i => NW[i]?) := by decide +kernel
    intro w hw
    rw [e] at hw
    obtain ⟨i, -, hi⟩ := List.mem_filterMap.mp hw
    exact List.mem_of_getElem? hi
theorem th_IllegalStateException : jTh RX9 123 "java/lang/IllegalStateException" ["java/lang/RuntimeException", "java/lang/Exception"] := by
  refine ⟨?_, ?_, by decide +kernel, by decide +kernel⟩
  · have e : (vx_atS RX9 123 "java/lang/IllegalStateException" ["java/lang/RuntimeException", "java/lang/Exception"]).filter goodWord = ([101, 596, 605, 614, 617, 619, 597, 598, 126, 127, 599, 604, 615, 635, 586, 636, 588, 637, 590, 600, 602, 592, 631, 632, 634, 592, 673, 674, 675, 625, 625, 626, 627, 628, 628, 629, 630, 631, 672, 663, 665, 609, 666, 667, 668, 669, 595, 594, 670] : List Nat).filterMap (fun i => lw_tbl[i]?) := by decide +kernel
    intro w hw
    have g := (List.mem_filter.mp hw).2
    rw [e] at hw
    obtain ⟨i, -, hi⟩ := List.mem_filterMap.mp hw
    exact List.mem_filter.mpr ⟨List.mem_of_getElem? hi, g⟩
  · have e : (vx_atS RX9 123 "java/lang/IllegalStateException" ["java/lang/RuntimeException", "java/lang/Exception"]).filter (fun w => !goodWord w) = ([21, 23, 25, 27] : List Nat).filterMap (fun i => NW[i]?) := by decide +kernel
    intro w hw
    rw [e] at hw
    obtain ⟨i, -, hi⟩ := List.mem_filterMap.mp hw
    exact List.mem_of_getElem? hi
theorem th_NoSuchElementException : jThG RX9 128 "java/util/NoSuchElementException" 13 prog_40_method_4_code "java/lang/RuntimeException" ["java/lang/Exception"] := by
  refine ⟨?_, ?_, by decide +kernel, by decide +kernel, by decide +kernel, by decide +kernel, by decide +kernel, by decide +kernel, by decide +kernel⟩
  · have e : (jAtF RX9 128 "java/util/NoSuchElementException" 13 prog_40_method_4_code "java/lang/RuntimeException" ["java/lang/Exception"]).filter goodWord = ([101, 596, 605, 614, 617, 619, 597, 598, 126, 127, 599, 604, 615, 635, 586, 636, 588, 637, 590, 600, 602, 592, 631, 632, 634, 592, 689, 690, 691, 625, 625, 626, 627, 628, 628, 629, 630, 631, 688, 679, 681, 613, 682, 683, 684, 685, 595, 594, 686] : List Nat).filterMap (fun i => lw_tbl[i]?) := by decide +kernel
    intro w hw
    have g := (List.mem_filter.mp hw).2
    rw [e] at hw
    obtain ⟨i, -, hi⟩ := List.mem_filterMap.mp hw
    exact List.mem_filter.mpr ⟨List.mem_of_getElem? hi, g⟩
  · have e : (jAtF RX9 128 "java/util/NoSuchElementException" 13 prog_40_method_4_code "java/lang/RuntimeException" ["java/lang/Exception"]).filter (fun w => !goodWord w) = ([21, 23, 25, 28] : List Nat).filterMap (fun i => NW[i]?) := by decide +kernel
    intro w hw
    rw [e] at hw
    obtain ⟨i, -, hi⟩ := List.mem_filterMap.mp hw
    exact List.mem_of_getElem? hi
theorem th_UnsupportedOperationException : jTh RX9 133 "java/lang/UnsupportedOperationException" ["java/lang/RuntimeException", "java/lang/Exception"] := by
  refine ⟨?_, ?_, by decide +kernel, by decide +kernel⟩
  · have e : (vx_atS RX9 133 "java/lang/UnsupportedOperationException" ["java/lang/RuntimeException", "java/lang/Exception"]).filter goodWord = ([101, 596, 605, 614, 617, 619, 597, 598, 126, 127, 599, 604, 615, 635, 586, 636, 588, 637, 590, 600, 602, 592, 631, 632, 634, 592, 705, 706, 707, 625, 625, 626, 627, 628, 628, 629, 630, 631, 704, 695, 697, 612, 698, 699, 700, 701, 595, 594, 702] : List Nat).filterMap (fun i => lw_tbl[i]?) := by decide +kernel
    intro w hw
    have g := (List.mem_filter.mp hw).2
    rw [e] at hw
    obtain ⟨i, -, hi⟩ := List.mem_filterMap.mp hw
    exact List.mem_filter.mpr ⟨List.mem_of_getElem? hi, g⟩
  · have e : (vx_atS RX9 133 "java/lang/UnsupportedOperationException" ["java/lang/RuntimeException", "java/lang/Exception"]).filter (fun w => !goodWord w) = ([21, 23, 25, 29] : List Nat).filterMap (fun i => NW[i]?) := by decide +kernel
    intro w hw
    rw [e] at hw
    obtain ⟨i, -, hi⟩ := List.mem_filterMap.mp hw
    exact List.mem_of_getElem? hi
theorem th_ArithmeticException : jTh RX9 198 "java/lang/ArithmeticException" ["java/lang/RuntimeException", "java/lang/Exception"] := by
  refine ⟨?_, ?_, by decide +kernel, by decide +kernel⟩
  · have e : (vx_atS RX9 198 "java/lang/ArithmeticException" ["java/lang/RuntimeException", "java/lang/Exception"]).filter goodWord = ([101, 596, 605, 614, 617, 619, 597, 598, 126, 127, 599, 604, 615, 635, 586, 636, 588, 637, 590, 600, 602, 592, 631, 632, 634, 592, 1348, 1349, 1350, 625, 625, 626, 627, 628, 628, 629, 630, 631, 1366, 1347, 1359, 607, 1353, 1354, 1356, 1352, 595, 594, 1351] : List Nat).filterMap (fun i => lw_tbl[i]?) := by decide +kernel
    intro w hw
    have g := (List.mem_filter.mp hw).2
    rw [e] at hw
    obtain ⟨i, -, hi⟩ := List.mem_filterMap.mp hw
    exact List.mem_filter.mpr ⟨List.mem_of_getElem? hi, g⟩
  · have e : (vx_atS RX9 198 "java/lang/ArithmeticException" ["java/lang/RuntimeException", "java/lang/Exception"]).filter (fun w => !goodWord w) = ([21, 23, 25, 37] : List Nat).filterMap (fun i => NW[i]?) := by decide +kernel
    intro w hw
    rw [e] at hw
    obtain ⟨i, -, hi⟩ := List.mem_filterMap.mp hw
    exact List.mem_of_getElem? hi

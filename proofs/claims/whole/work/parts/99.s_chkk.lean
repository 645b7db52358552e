theorem qL_0 : chkL (mT 280).2.1 (mT 280).1.cls false 0 kL_law_0 = true := by decide +kernel
theorem qL_1 : chkL (mT 280).2.1 (mT 280).1.cls false 252 kL_law_1 = true := by decide +kernel
theorem qL_2 : chkL (mT 280).2.1 (mT 280).1.cls false 344 kL_law_2 = true := by decide +kernel
theorem qL_3 : chkL (mT 280).2.1 (mT 280).1.cls false 438 kL_law_3 = true := by decide +kernel
theorem qL_4 : chkL (mT 280).2.1 (mT 280).1.cls false 540 kL_law_4 = true := by decide +kernel
theorem qL_5 : chkL (mT 280).2.1 (mT 280).1.cls false 640 kL_law_5 = true := by decide +kernel
theorem qL_6 : chkL (mT 280).2.1 (mT 280).1.cls false 732 kL_law_6 = true := by decide +kernel

theorem qL_7 : chkL (mT 280).2.1 (mT 280).1.cls false 822 kL_law_7 = true := by decide +kernel
theorem qL_8 : chkL (mT 280).2.1 (mT 280).1.cls false 920 kL_law_8 = true := by decide +kernel
theorem qL_9 : chkL (mT 280).2.1 (mT 280).1.cls false 1014 kL_law_9 = true := by decide +kernel
theorem qL_10 : chkL (mT 280).2.1 (mT 280).1.cls false 1116 kL_law_10 = true := by decide +kernel
theorem qL_11 : chkL (mT 280).2.1 (mT 280).1.cls false 1208 kL_law_11 = true := by decide +kernel
theorem qL_12 : chkL (mT 280).2.1 (mT 280).1.cls false 1314 kL_law_12 = true := by decide +kernel
theorem qL_13 : chkL (mT 280).2.1 (mT 280).1.cls false 1412 kL_law_13 = true := by decide +kernel

theorem zoL_3 : zokB RL cL_law ((zc_137.drop 8).take 1) = true := by decide +kernel
theorem zoL_4 : zokB RL cL_law ((zc_137.drop 9).take 2) = true := by decide +kernel
theorem zoL_5 : zokB RL cL_law ((zc_137.drop 11).take 3) = true := by decide +kernel

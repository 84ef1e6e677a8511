theorem zoL_0 : zokB RL cL_law ((zc_137.drop 0).take 4) = true := by decide +kernel
theorem zoL_1 : zokB RL cL_law ((zc_137.drop 4).take 2) = true := by decide +kernel
theorem zoL_2 : zokB RL cL_law ((zc_137.drop 6).take 2) = true := by decide +kernel

theorem zoL_9 : zokB RL cL_law ((zc_137.drop 20).take 2) = true := by decide +kernel
theorem zoL_10 : zokB RL cL_law ((zc_137.drop 22).take 2) = true := by decide +kernel
theorem zoL_11 : zokB RL cL_law ((zc_137.drop 24).take 2) = true := by decide +kernel

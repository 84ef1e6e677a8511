theorem zoL_6 : zokB RL cL_law ((zc_137.drop 14).take 2) = true := by decide +kernel
theorem zoL_7 : zokB RL cL_law ((zc_137.drop 16).take 2) = true := by decide +kernel
theorem zoL_8 : zokB RL cL_law ((zc_137.drop 18).take 2) = true := by decide +kernel

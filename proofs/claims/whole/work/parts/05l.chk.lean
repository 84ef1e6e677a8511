theorem zoL_12 : zokB RL cL_law ((zc_137.drop 26).take 3) = true := by decide +kernel

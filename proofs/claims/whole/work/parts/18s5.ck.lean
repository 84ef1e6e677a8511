set_option maxRecDepth 1000000 in
set_option maxHeartbeats 0 in
theorem ck_0_0 : ckI false false false false 0 0 37 = true := by decide +kernel
set_option maxRecDepth 1000000 in
set_option maxHeartbeats 0 in
theorem ck_0_37 : ckI false false false false 0 37 37 = true := by decide +kernel
set_option maxRecDepth 1000000 in
set_option maxHeartbeats 0 in
theorem ck_0_74 : ckI false false false false 0 74 37 = true := by decide +kernel
set_option maxRecDepth 1000000 in
set_option maxHeartbeats 0 in
theorem ck_0_111 : ckI false false false false 0 111 37 = true := by decide +kernel
set_option maxRecDepth 1000000 in
set_option maxHeartbeats 0 in
theorem ck_0_148 : ckI false false false false 0 148 37 = true := by decide +kernel
set_option maxRecDepth 1000000 in
set_option maxHeartbeats 0 in
theorem ck_0_185 : ckI false false false false 0 185 37 = true := by decide +kernel
set_option maxRecDepth 1000000 in
set_option maxHeartbeats 0 in
theorem ck_0_222 : ckI false false false false 0 222 37 = true := by decide +kernel
set_option maxRecDepth 1000000 in
set_option maxHeartbeats 0 in
theorem ck_0_259 : ckI false false false false 0 259 37 = true := by decide +kernel
set_option maxRecDepth 1000000 in
set_option maxHeartbeats 0 in
theorem ck_0_296 : ckI false false false false 0 296 37 = true := by decide +kernel
set_option maxRecDepth 1000000 in
set_option maxHeartbeats 0 in
theorem ck_0_333 : ckI false false false false 0 333 37 = true := by decide +kernel
set_option maxRecDepth 1000000 in
set_option maxHeartbeats 0 in
theorem ck_0_370 : ckI false false false false 0 370 37 = true := by decide +kernel
set_option maxRecDepth 1000000 in
set_option maxHeartbeats 0 in
theorem ck_0_407 : ckI false false false false 0 407 37 = true := by decide +kernel
set_option maxRecDepth 1000000 in
set_option maxHeartbeats 0 in
theorem ck_0_444 : ckI false false false false 0 444 37 = true := by decide +kernel
set_option maxRecDepth 1000000 in
set_option maxHeartbeats 0 in
theorem ck_0_481 : ckI false false false false 0 481 37 = true := by decide +kernel
set_option maxRecDepth 1000000 in
set_option maxHeartbeats 0 in
theorem ck_0_518 : ckI false false false false 0 518 37 = true := by decide +kernel
set_option maxRecDepth 1000000 in
set_option maxHeartbeats 0 in
theorem ck_3_0 : ckI true false true false 3 0 37 = true := by decide +kernel
set_option maxRecDepth 1000000 in
set_option maxHeartbeats 0 in
theorem ck_3_37 : ckI true false true false 3 37 37 = true := by decide +kernel
set_option maxRecDepth 1000000 in
set_option maxHeartbeats 0 in
theorem ck_3_74 : ckI true false true false 3 74 37 = true := by decide +kernel
set_option maxRecDepth 1000000 in
set_option maxHeartbeats 0 in
theorem ck_3_111 : ckI true false true false 3 111 37 = true := by decide +kernel
set_option maxRecDepth 1000000 in
set_option maxHeartbeats 0 in
theorem ck_3_148 : ckI true false true false 3 148 37 = true := by decide +kernel
set_option maxRecDepth 1000000 in
set_option maxHeartbeats 0 in
theorem ck_3_185 : ckI true false true false 3 185 37 = true := by decide +kernel
set_option maxRecDepth 1000000 in
set_option maxHeartbeats 0 in
theorem ck_3_222 : ckI true false true false 3 222 37 = true := by decide +kernel
set_option maxRecDepth 1000000 in
set_option maxHeartbeats 0 in
theorem ck_3_259 : ckI true false true false 3 259 37 = true := by decide +kernel
set_option maxRecDepth 1000000 in
set_option maxHeartbeats 0 in
theorem ck_3_296 : ckI true false true false 3 296 37 = true := by decide +kernel
set_option maxRecDepth 1000000 in
set_option maxHeartbeats 0 in
theorem ck_3_333 : ckI true false true false 3 333 37 = true := by decide +kernel
set_option maxRecDepth 1000000 in
set_option maxHeartbeats 0 in
theorem ck_3_370 : ckI true false true false 3 370 37 = true := by decide +kernel
set_option maxRecDepth 1000000 in
set_option maxHeartbeats 0 in
theorem ck_3_407 : ckI true false true false 3 407 37 = true := by decide +kernel
set_option maxRecDepth 1000000 in
set_option maxHeartbeats 0 in
theorem ck_3_444 : ckI true false true false 3 444 37 = true := by decide +kernel
set_option maxRecDepth 1000000 in
set_option maxHeartbeats 0 in
theorem ck_3_481 : ckI true false true false 3 481 37 = true := by decide +kernel
set_option maxRecDepth 1000000 in
set_option maxHeartbeats 0 in
theorem ck_3_518 : ckI true false true false 3 518 37 = true := by decide +kernel
set_option maxRecDepth 1000000 in
set_option maxHeartbeats 0 in
theorem ck_5_0 : ckI true true false false 5 0 37 = true := by decide +kernel
set_option maxRecDepth 1000000 in
set_option maxHeartbeats 0 in
theorem ck_5_37 : ckI true true false false 5 37 37 = true := by decide +kernel
set_option maxRecDepth 1000000 in
set_option maxHeartbeats 0 in
theorem ck_5_74 : ckI true true false false 5 74 37 = true := by decide +kernel
set_option maxRecDepth 1000000 in
set_option maxHeartbeats 0 in
theorem ck_5_111 : ckI true true false false 5 111 37 = true := by decide +kernel
set_option maxRecDepth 1000000 in
set_option maxHeartbeats 0 in
theorem ck_5_148 : ckI true true false false 5 148 37 = true := by decide +kernel
set_option maxRecDepth 1000000 in
set_option maxHeartbeats 0 in
theorem ck_5_185 : ckI true true false false 5 185 37 = true := by decide +kernel
set_option maxRecDepth 1000000 in
set_option maxHeartbeats 0 in
theorem ck_5_222 : ckI true true false false 5 222 37 = true := by decide +kernel
set_option maxRecDepth 1000000 in
set_option maxHeartbeats 0 in
theorem ck_5_259 : ckI true true false false 5 259 37 = true := by decide +kernel
set_option maxRecDepth 1000000 in
set_option maxHeartbeats 0 in
theorem ck_5_296 : ckI true true false false 5 296 37 = true := by decide +kernel
set_option maxRecDepth 1000000 in
set_option maxHeartbeats 0 in
theorem ck_5_333 : ckI true true false false 5 333 37 = true := by decide +kernel
set_option maxRecDepth 1000000 in
set_option maxHeartbeats 0 in
theorem ck_5_370 : ckI true true false false 5 370 37 = true := by decide +kernel
set_option maxRecDepth 1000000 in
set_option maxHeartbeats 0 in
theorem ck_5_407 : ckI true true false false 5 407 37 = true := by decide +kernel
set_option maxRecDepth 1000000 in
set_option maxHeartbeats 0 in
theorem ck_5_444 : ckI true true false false 5 444 37 = true := by decide +kernel
set_option maxRecDepth 1000000 in
set_option maxHeartbeats 0 in
theorem ck_5_481 : ckI true true false false 5 481 37 = true := by decide +kernel
set_option maxRecDepth 1000000 in
set_option maxHeartbeats 0 in
theorem ck_5_518 : ckI true true false false 5 518 37 = true := by decide +kernel
set_option maxRecDepth 1000000 in
set_option maxHeartbeats 0 in
theorem ck_6_0 : ckI false true true false 6 0 37 = true := by decide +kernel
set_option maxRecDepth 1000000 in
set_option maxHeartbeats 0 in
theorem ck_6_37 : ckI false true true false 6 37 37 = true := by decide +kernel
set_option maxRecDepth 1000000 in
set_option maxHeartbeats 0 in
theorem ck_6_74 : ckI false true true false 6 74 37 = true := by decide +kernel
set_option maxRecDepth 1000000 in
set_option maxHeartbeats 0 in
theorem ck_6_111 : ckI false true true false 6 111 37 = true := by decide +kernel
set_option maxRecDepth 1000000 in
set_option maxHeartbeats 0 in
theorem ck_6_148 : ckI false true true false 6 148 37 = true := by decide +kernel
set_option maxRecDepth 1000000 in
set_option maxHeartbeats 0 in
theorem ck_6_185 : ckI false true true false 6 185 37 = true := by decide +kernel
set_option maxRecDepth 1000000 in
set_option maxHeartbeats 0 in
theorem ck_6_222 : ckI false true true false 6 222 37 = true := by decide +kernel
set_option maxRecDepth 1000000 in
set_option maxHeartbeats 0 in
theorem ck_6_259 : ckI false true true false 6 259 37 = true := by decide +kernel
set_option maxRecDepth 1000000 in
set_option maxHeartbeats 0 in
theorem ck_6_296 : ckI false true true false 6 296 37 = true := by decide +kernel
set_option maxRecDepth 1000000 in
set_option maxHeartbeats 0 in
theorem ck_6_333 : ckI false true true false 6 333 37 = true := by decide +kernel
set_option maxRecDepth 1000000 in
set_option maxHeartbeats 0 in
theorem ck_6_370 : ckI false true true false 6 370 37 = true := by decide +kernel
set_option maxRecDepth 1000000 in
set_option maxHeartbeats 0 in
theorem ck_6_407 : ckI false true true false 6 407 37 = true := by decide +kernel
set_option maxRecDepth 1000000 in
set_option maxHeartbeats 0 in
theorem ck_6_444 : ckI false true true false 6 444 37 = true := by decide +kernel
set_option maxRecDepth 1000000 in
set_option maxHeartbeats 0 in
theorem ck_6_481 : ckI false true true false 6 481 37 = true := by decide +kernel
set_option maxRecDepth 1000000 in
set_option maxHeartbeats 0 in
theorem ck_6_518 : ckI false true true false 6 518 37 = true := by decide +kernel
set_option maxRecDepth 1000000 in
set_option maxHeartbeats 0 in
theorem ck_8_0 : ckI false false false true 8 0 37 = true := by decide +kernel
set_option maxRecDepth 1000000 in
set_option maxHeartbeats 0 in
theorem ck_8_37 : ckI false false false true 8 37 37 = true := by decide +kernel
set_option maxRecDepth 1000000 in
set_option maxHeartbeats 0 in
theorem ck_8_74 : ckI false false false true 8 74 37 = true := by decide +kernel
set_option maxRecDepth 1000000 in
set_option maxHeartbeats 0 in
theorem ck_8_111 : ckI false false false true 8 111 37 = true := by decide +kernel
set_option maxRecDepth 1000000 in
set_option maxHeartbeats 0 in
theorem ck_8_148 : ckI false false false true 8 148 37 = true := by decide +kernel
set_option maxRecDepth 1000000 in
set_option maxHeartbeats 0 in
theorem ck_8_185 : ckI false false false true 8 185 37 = true := by decide +kernel
set_option maxRecDepth 1000000 in
set_option maxHeartbeats 0 in
theorem ck_8_222 : ckI false false false true 8 222 37 = true := by decide +kernel
set_option maxRecDepth 1000000 in
set_option maxHeartbeats 0 in
theorem ck_8_259 : ckI false false false true 8 259 37 = true := by decide +kernel
set_option maxRecDepth 1000000 in
set_option maxHeartbeats 0 in
theorem ck_8_296 : ckI false false false true 8 296 37 = true := by decide +kernel
set_option maxRecDepth 1000000 in
set_option maxHeartbeats 0 in
theorem ck_8_333 : ckI false false false true 8 333 37 = true := by decide +kernel
set_option maxRecDepth 1000000 in
set_option maxHeartbeats 0 in
theorem ck_8_370 : ckI false false false true 8 370 37 = true := by decide +kernel
set_option maxRecDepth 1000000 in
set_option maxHeartbeats 0 in
theorem ck_8_407 : ckI false false false true 8 407 37 = true := by decide +kernel
set_option maxRecDepth 1000000 in
set_option maxHeartbeats 0 in
theorem ck_8_444 : ckI false false false true 8 444 37 = true := by decide +kernel
set_option maxRecDepth 1000000 in
set_option maxHeartbeats 0 in
theorem ck_8_481 : ckI false false false true 8 481 37 = true := by decide +kernel
set_option maxRecDepth 1000000 in
set_option maxHeartbeats 0 in
theorem ck_8_518 : ckI false false false true 8 518 37 = true := by decide +kernel

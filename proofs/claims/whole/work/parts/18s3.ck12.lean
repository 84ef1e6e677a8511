set_option maxRecDepth 1000000 in
set_option maxHeartbeats 0 in
theorem ck_1_0 : ckI true false false false 1 0 37 = true := by decide +kernel
set_option maxRecDepth 1000000 in
set_option maxHeartbeats 0 in
theorem ck_1_37 : ckI true false false false 1 37 37 = true := by decide +kernel
set_option maxRecDepth 1000000 in
set_option maxHeartbeats 0 in
theorem ck_1_74 : ckI true false false false 1 74 37 = true := by decide +kernel
set_option maxRecDepth 1000000 in
set_option maxHeartbeats 0 in
theorem ck_1_111 : ckI true false false false 1 111 37 = true := by decide +kernel
set_option maxRecDepth 1000000 in
set_option maxHeartbeats 0 in
theorem ck_1_148 : ckI true false false false 1 148 37 = true := by decide +kernel
set_option maxRecDepth 1000000 in
set_option maxHeartbeats 0 in
theorem ck_1_185 : ckI true false false false 1 185 37 = true := by decide +kernel
set_option maxRecDepth 1000000 in
set_option maxHeartbeats 0 in
theorem ck_1_222 : ckI true false false false 1 222 37 = true := by decide +kernel
set_option maxRecDepth 1000000 in
set_option maxHeartbeats 0 in
theorem ck_1_259 : ckI true false false false 1 259 37 = true := by decide +kernel
set_option maxRecDepth 1000000 in
set_option maxHeartbeats 0 in
theorem ck_1_296 : ckI true false false false 1 296 37 = true := by decide +kernel
set_option maxRecDepth 1000000 in
set_option maxHeartbeats 0 in
theorem ck_1_333 : ckI true false false false 1 333 37 = true := by decide +kernel
set_option maxRecDepth 1000000 in
set_option maxHeartbeats 0 in
theorem ck_1_370 : ckI true false false false 1 370 37 = true := by decide +kernel
set_option maxRecDepth 1000000 in
set_option maxHeartbeats 0 in
theorem ck_1_407 : ckI true false false false 1 407 37 = true := by decide +kernel
set_option maxRecDepth 1000000 in
set_option maxHeartbeats 0 in
theorem ck_1_444 : ckI true false false false 1 444 37 = true := by decide +kernel
set_option maxRecDepth 1000000 in
set_option maxHeartbeats 0 in
theorem ck_1_481 : ckI true false false false 1 481 37 = true := by decide +kernel
set_option maxRecDepth 1000000 in
set_option maxHeartbeats 0 in
theorem ck_1_518 : ckI true false false false 1 518 37 = true := by decide +kernel
set_option maxRecDepth 1000000 in
set_option maxHeartbeats 0 in
theorem ck_2_0 : ckI false false true false 2 0 37 = true := by decide +kernel
set_option maxRecDepth 1000000 in
set_option maxHeartbeats 0 in
theorem ck_2_37 : ckI false false true false 2 37 37 = true := by decide +kernel
set_option maxRecDepth 1000000 in
set_option maxHeartbeats 0 in
theorem ck_2_74 : ckI false false true false 2 74 37 = true := by decide +kernel
set_option maxRecDepth 1000000 in
set_option maxHeartbeats 0 in
theorem ck_2_111 : ckI false false true false 2 111 37 = true := by decide +kernel
set_option maxRecDepth 1000000 in
set_option maxHeartbeats 0 in
theorem ck_2_148 : ckI false false true false 2 148 37 = true := by decide +kernel
set_option maxRecDepth 1000000 in
set_option maxHeartbeats 0 in
theorem ck_2_185 : ckI false false true false 2 185 37 = true := by decide +kernel
set_option maxRecDepth 1000000 in
set_option maxHeartbeats 0 in
theorem ck_2_222 : ckI false false true false 2 222 37 = true := by decide +kernel
set_option maxRecDepth 1000000 in
set_option maxHeartbeats 0 in
theorem ck_2_259 : ckI false false true false 2 259 37 = true := by decide +kernel
set_option maxRecDepth 1000000 in
set_option maxHeartbeats 0 in
theorem ck_2_296 : ckI false false true false 2 296 37 = true := by decide +kernel
set_option maxRecDepth 1000000 in
set_option maxHeartbeats 0 in
theorem ck_2_333 : ckI false false true false 2 333 37 = true := by decide +kernel
set_option maxRecDepth 1000000 in
set_option maxHeartbeats 0 in
theorem ck_2_370 : ckI false false true false 2 370 37 = true := by decide +kernel
set_option maxRecDepth 1000000 in
set_option maxHeartbeats 0 in
theorem ck_2_407 : ckI false false true false 2 407 37 = true := by decide +kernel
set_option maxRecDepth 1000000 in
set_option maxHeartbeats 0 in
theorem ck_2_444 : ckI false false true false 2 444 37 = true := by decide +kernel
set_option maxRecDepth 1000000 in
set_option maxHeartbeats 0 in
theorem ck_2_481 : ckI false false true false 2 481 37 = true := by decide +kernel
set_option maxRecDepth 1000000 in
set_option maxHeartbeats 0 in
theorem ck_2_518 : ckI false false true false 2 518 37 = true := by decide +kernel

set_option maxRecDepth 1000000 in
set_option maxHeartbeats 0 in
theorem ck_11_0 : ckI true false true true 11 0 37 = true := by decide +kernel
set_option maxRecDepth 1000000 in
set_option maxHeartbeats 0 in
theorem ck_11_37 : ckI true false true true 11 37 37 = true := by decide +kernel
set_option maxRecDepth 1000000 in
set_option maxHeartbeats 0 in
theorem ck_11_74 : ckI true false true true 11 74 37 = true := by decide +kernel
set_option maxRecDepth 1000000 in
set_option maxHeartbeats 0 in
theorem ck_11_111 : ckI true false true true 11 111 37 = true := by decide +kernel
set_option maxRecDepth 1000000 in
set_option maxHeartbeats 0 in
theorem ck_11_148 : ckI true false true true 11 148 37 = true := by decide +kernel
set_option maxRecDepth 1000000 in
set_option maxHeartbeats 0 in
theorem ck_11_185 : ckI true false true true 11 185 37 = true := by decide +kernel
set_option maxRecDepth 1000000 in
set_option maxHeartbeats 0 in
theorem ck_11_222 : ckI true false true true 11 222 37 = true := by decide +kernel
set_option maxRecDepth 1000000 in
set_option maxHeartbeats 0 in
theorem ck_11_259 : ckI true false true true 11 259 37 = true := by decide +kernel
set_option maxRecDepth 1000000 in
set_option maxHeartbeats 0 in
theorem ck_11_296 : ckI true false true true 11 296 37 = true := by decide +kernel
set_option maxRecDepth 1000000 in
set_option maxHeartbeats 0 in
theorem ck_11_333 : ckI true false true true 11 333 37 = true := by decide +kernel
set_option maxRecDepth 1000000 in
set_option maxHeartbeats 0 in
theorem ck_11_370 : ckI true false true true 11 370 37 = true := by decide +kernel
set_option maxRecDepth 1000000 in
set_option maxHeartbeats 0 in
theorem ck_11_407 : ckI true false true true 11 407 37 = true := by decide +kernel
set_option maxRecDepth 1000000 in
set_option maxHeartbeats 0 in
theorem ck_11_444 : ckI true false true true 11 444 37 = true := by decide +kernel
set_option maxRecDepth 1000000 in
set_option maxHeartbeats 0 in
theorem ck_11_481 : ckI true false true true 11 481 37 = true := by decide +kernel
set_option maxRecDepth 1000000 in
set_option maxHeartbeats 0 in
theorem ck_11_518 : ckI true false true true 11 518 37 = true := by decide +kernel
set_option maxRecDepth 1000000 in
set_option maxHeartbeats 0 in
theorem ck_4_0 : ckI false true false false 4 0 37 = true := by decide +kernel
set_option maxRecDepth 1000000 in
set_option maxHeartbeats 0 in
theorem ck_4_37 : ckI false true false false 4 37 37 = true := by decide +kernel
set_option maxRecDepth 1000000 in
set_option maxHeartbeats 0 in
theorem ck_4_74 : ckI false true false false 4 74 37 = true := by decide +kernel
set_option maxRecDepth 1000000 in
set_option maxHeartbeats 0 in
theorem ck_4_111 : ckI false true false false 4 111 37 = true := by decide +kernel
set_option maxRecDepth 1000000 in
set_option maxHeartbeats 0 in
theorem ck_4_148 : ckI false true false false 4 148 37 = true := by decide +kernel
set_option maxRecDepth 1000000 in
set_option maxHeartbeats 0 in
theorem ck_4_185 : ckI false true false false 4 185 37 = true := by decide +kernel
set_option maxRecDepth 1000000 in
set_option maxHeartbeats 0 in
theorem ck_4_222 : ckI false true false false 4 222 37 = true := by decide +kernel
set_option maxRecDepth 1000000 in
set_option maxHeartbeats 0 in
theorem ck_4_259 : ckI false true false false 4 259 37 = true := by decide +kernel
set_option maxRecDepth 1000000 in
set_option maxHeartbeats 0 in
theorem ck_4_296 : ckI false true false false 4 296 37 = true := by decide +kernel
set_option maxRecDepth 1000000 in
set_option maxHeartbeats 0 in
theorem ck_4_333 : ckI false true false false 4 333 37 = true := by decide +kernel
set_option maxRecDepth 1000000 in
set_option maxHeartbeats 0 in
theorem ck_4_370 : ckI false true false false 4 370 37 = true := by decide +kernel
set_option maxRecDepth 1000000 in
set_option maxHeartbeats 0 in
theorem ck_4_407 : ckI false true false false 4 407 37 = true := by decide +kernel
set_option maxRecDepth 1000000 in
set_option maxHeartbeats 0 in
theorem ck_4_444 : ckI false true false false 4 444 37 = true := by decide +kernel
set_option maxRecDepth 1000000 in
set_option maxHeartbeats 0 in
theorem ck_4_481 : ckI false true false false 4 481 37 = true := by decide +kernel
set_option maxRecDepth 1000000 in
set_option maxHeartbeats 0 in
theorem ck_4_518 : ckI false true false false 4 518 37 = true := by decide +kernel
set_option maxRecDepth 1000000 in
set_option maxHeartbeats 0 in
theorem ck_13_0 : ckI true true false true 13 0 37 = true := by decide +kernel
set_option maxRecDepth 1000000 in
set_option maxHeartbeats 0 in
theorem ck_13_37 : ckI true true false true 13 37 37 = true := by decide +kernel
set_option maxRecDepth 1000000 in
set_option maxHeartbeats 0 in
theorem ck_13_74 : ckI true true false true 13 74 37 = true := by decide +kernel
set_option maxRecDepth 1000000 in
set_option maxHeartbeats 0 in
theorem ck_13_111 : ckI true true false true 13 111 37 = true := by decide +kernel
set_option maxRecDepth 1000000 in
set_option maxHeartbeats 0 in
theorem ck_13_148 : ckI true true false true 13 148 37 = true := by decide +kernel
set_option maxRecDepth 1000000 in
set_option maxHeartbeats 0 in
theorem ck_13_185 : ckI true true false true 13 185 37 = true := by decide +kernel
set_option maxRecDepth 1000000 in
set_option maxHeartbeats 0 in
theorem ck_13_222 : ckI true true false true 13 222 37 = true := by decide +kernel
set_option maxRecDepth 1000000 in
set_option maxHeartbeats 0 in
theorem ck_13_259 : ckI true true false true 13 259 37 = true := by decide +kernel
set_option maxRecDepth 1000000 in
set_option maxHeartbeats 0 in
theorem ck_13_296 : ckI true true false true 13 296 37 = true := by decide +kernel
set_option maxRecDepth 1000000 in
set_option maxHeartbeats 0 in
theorem ck_13_333 : ckI true true false true 13 333 37 = true := by decide +kernel
set_option maxRecDepth 1000000 in
set_option maxHeartbeats 0 in
theorem ck_13_370 : ckI true true false true 13 370 37 = true := by decide +kernel
set_option maxRecDepth 1000000 in
set_option maxHeartbeats 0 in
theorem ck_13_407 : ckI true true false true 13 407 37 = true := by decide +kernel
set_option maxRecDepth 1000000 in
set_option maxHeartbeats 0 in
theorem ck_13_444 : ckI true true false true 13 444 37 = true := by decide +kernel
set_option maxRecDepth 1000000 in
set_option maxHeartbeats 0 in
theorem ck_13_481 : ckI true true false true 13 481 37 = true := by decide +kernel
set_option maxRecDepth 1000000 in
set_option maxHeartbeats 0 in
theorem ck_13_518 : ckI true true false true 13 518 37 = true := by decide +kernel

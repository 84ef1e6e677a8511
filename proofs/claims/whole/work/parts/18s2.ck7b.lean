set_option maxRecDepth 1000000 in
set_option maxHeartbeats 0 in
theorem ck_7_296 : ckI true true true false 7 296 37 = true := by decide +kernel
set_option maxRecDepth 1000000 in
set_option maxHeartbeats 0 in
theorem ck_7_333 : ckI true true true false 7 333 37 = true := by decide +kernel
set_option maxRecDepth 1000000 in
set_option maxHeartbeats 0 in
theorem ck_7_370 : ckI true true true false 7 370 37 = true := by decide +kernel
set_option maxRecDepth 1000000 in
set_option maxHeartbeats 0 in
theorem ck_7_407 : ckI true true true false 7 407 37 = true := by decide +kernel
set_option maxRecDepth 1000000 in
set_option maxHeartbeats 0 in
theorem ck_7_444 : ckI true true true false 7 444 37 = true := by decide +kernel
set_option maxRecDepth 1000000 in
set_option maxHeartbeats 0 in
theorem ck_7_481 : ckI true true true false 7 481 37 = true := by decide +kernel
set_option maxRecDepth 1000000 in
set_option maxHeartbeats 0 in
theorem ck_7_518 : ckI true true true false 7 518 37 = true := by decide +kernel

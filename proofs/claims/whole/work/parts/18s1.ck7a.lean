set_option maxRecDepth 1000000 in
set_option maxHeartbeats 0 in
theorem ck_7_0 : ckI true true true false 7 0 37 = true := by decide +kernel
set_option maxRecDepth 1000000 in
set_option maxHeartbeats 0 in
theorem ck_7_37 : ckI true true true false 7 37 37 = true := by decide +kernel
set_option maxRecDepth 1000000 in
set_option maxHeartbeats 0 in
theorem ck_7_74 : ckI true true true false 7 74 37 = true := by decide +kernel
set_option maxRecDepth 1000000 in
set_option maxHeartbeats 0 in
theorem ck_7_111 : ckI true true true false 7 111 37 = true := by decide +kernel
set_option maxRecDepth 1000000 in
set_option maxHeartbeats 0 in
theorem ck_7_148 : ckI true true true false 7 148 37 = true := by decide +kernel
set_option maxRecDepth 1000000 in
set_option maxHeartbeats 0 in
theorem ck_7_185 : ckI true true true false 7 185 37 = true := by decide +kernel
set_option maxRecDepth 1000000 in
set_option maxHeartbeats 0 in
theorem ck_7_222 : ckI true true true false 7 222 37 = true := by decide +kernel
set_option maxRecDepth 1000000 in
set_option maxHeartbeats 0 in
theorem ck_7_259 : ckI true true true false 7 259 37 = true := by decide +kernel

set_option maxRecDepth 100000 in
set_option maxHeartbeats 4000000 in
theorem am_k263 : am_chk 263 = true := by decide +kernel
set_option maxRecDepth 100000 in
set_option maxHeartbeats 4000000 in
theorem am_k264 : am_chk 264 = true := by decide +kernel
set_option maxRecDepth 100000 in
set_option maxHeartbeats 4000000 in
theorem am_k265 : am_chk 265 = true := by decide +kernel

set_option maxRecDepth 100000 in
set_option maxHeartbeats 4000000 in
theorem am_kl16 : ((am_c262.getD 16 (0, [])).2.all (fun q => am_ck 262 q.1 q.2)) = true := by decide +kernel
set_option maxRecDepth 100000 in
set_option maxHeartbeats 4000000 in
theorem am_kl17 : ((am_c262.getD 17 (0, [])).2.all (fun q => am_ck 262 q.1 q.2)) = true := by decide +kernel
set_option maxRecDepth 100000 in
set_option maxHeartbeats 4000000 in
theorem am_kl18 : ((am_c262.getD 18 (0, [])).2.all (fun q => am_ck 262 q.1 q.2)) = true := by decide +kernel
set_option maxRecDepth 100000 in
set_option maxHeartbeats 4000000 in
theorem am_kl19 : ((am_c262.getD 19 (0, [])).2.all (fun q => am_ck 262 q.1 q.2)) = true := by decide +kernel
set_option maxRecDepth 100000 in
set_option maxHeartbeats 4000000 in
theorem am_kl20 : ((am_c262.getD 20 (0, [])).2.all (fun q => am_ck 262 q.1 q.2)) = true := by decide +kernel
set_option maxRecDepth 100000 in
set_option maxHeartbeats 4000000 in
theorem am_kl21 : ((am_c262.getD 21 (0, [])).2.all (fun q => am_ck 262 q.1 q.2)) = true := by decide +kernel
set_option maxRecDepth 100000 in
set_option maxHeartbeats 4000000 in
theorem am_kl22 : ((am_c262.getD 22 (0, [])).2.all (fun q => am_ck 262 q.1 q.2)) = true := by decide +kernel
set_option maxRecDepth 100000 in
set_option maxHeartbeats 4000000 in
theorem am_kl23 : ((am_c262.getD 23 (0, [])).2.all (fun q => am_ck 262 q.1 q.2)) = true := by decide +kernel

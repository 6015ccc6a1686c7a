set_option maxRecDepth 100000 in
set_option maxHeartbeats 4000000 in
theorem am_kl24 : ((am_c262.getD 24 (0, [])).2.all (fun q => am_ck 262 q.1 q.2)) = true := by decide +kernel
set_option maxRecDepth 100000 in
set_option maxHeartbeats 4000000 in
theorem am_kl25 : ((am_c262.getD 25 (0, [])).2.all (fun q => am_ck 262 q.1 q.2)) = true := by decide +kernel
set_option maxRecDepth 100000 in
set_option maxHeartbeats 4000000 in
theorem am_kl26 : ((am_c262.getD 26 (0, [])).2.all (fun q => am_ck 262 q.1 q.2)) = true := by decide +kernel
set_option maxRecDepth 100000 in
set_option maxHeartbeats 4000000 in
theorem am_kl27 : ((am_c262.getD 27 (0, [])).2.all (fun q => am_ck 262 q.1 q.2)) = true := by decide +kernel
set_option maxRecDepth 100000 in
set_option maxHeartbeats 4000000 in
theorem am_kl28 : ((am_c262.getD 28 (0, [])).2.all (fun q => am_ck 262 q.1 q.2)) = true := by decide +kernel
set_option maxRecDepth 100000 in
set_option maxHeartbeats 4000000 in
theorem am_kl29 : ((am_c262.getD 29 (0, [])).2.all (fun q => am_ck 262 q.1 q.2)) = true := by decide +kernel
set_option maxRecDepth 100000 in
set_option maxHeartbeats 4000000 in
theorem am_kl30 : ((am_c262.getD 30 (0, [])).2.all (fun q => am_ck 262 q.1 q.2)) = true := by decide +kernel
set_option maxRecDepth 100000 in
set_option maxHeartbeats 4000000 in
theorem am_kl31 : ((am_c262.getD 31 (0, [])).2.all (fun q => am_ck 262 q.1 q.2)) = true := by decide +kernel

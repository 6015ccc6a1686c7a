set_option maxRecDepth 100000 in
set_option maxHeartbeats 4000000 in
theorem am_kl32 : ((am_c262.getD 32 (0, [])).2.all (fun q => am_ck 262 q.1 q.2)) = true := by decide +kernel
set_option maxRecDepth 100000 in
set_option maxHeartbeats 4000000 in
theorem am_kl33 : ((am_c262.getD 33 (0, [])).2.all (fun q => am_ck 262 q.1 q.2)) = true := by decide +kernel
set_option maxRecDepth 100000 in
set_option maxHeartbeats 4000000 in
theorem am_kl34 : ((am_c262.getD 34 (0, [])).2.all (fun q => am_ck 262 q.1 q.2)) = true := by decide +kernel
set_option maxRecDepth 100000 in
set_option maxHeartbeats 4000000 in
theorem am_kl35 : ((am_c262.getD 35 (0, [])).2.all (fun q => am_ck 262 q.1 q.2)) = true := by decide +kernel
set_option maxRecDepth 100000 in
set_option maxHeartbeats 4000000 in
theorem am_kl36 : ((am_c262.getD 36 (0, [])).2.all (fun q => am_ck 262 q.1 q.2)) = true := by decide +kernel
set_option maxRecDepth 100000 in
set_option maxHeartbeats 4000000 in
theorem am_kl37 : ((am_c262.getD 37 (0, [])).2.all (fun q => am_ck 262 q.1 q.2)) = true := by decide +kernel
set_option maxRecDepth 100000 in
set_option maxHeartbeats 4000000 in
theorem am_kl38 : ((am_c262.getD 38 (0, [])).2.all (fun q => am_ck 262 q.1 q.2)) = true := by decide +kernel
set_option maxRecDepth 100000 in
set_option maxHeartbeats 4000000 in
theorem am_kl39 : ((am_c262.getD 39 (0, [])).2.all (fun q => am_ck 262 q.1 q.2)) = true := by decide +kernel

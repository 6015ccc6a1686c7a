set_option maxRecDepth 100000 in
set_option maxHeartbeats 4000000 in
theorem am_kl40 : ((am_c262.getD 40 (0, [])).2.all (fun q => am_ck 262 q.1 q.2)) = true := by decide +kernel
set_option maxRecDepth 100000 in
set_option maxHeartbeats 4000000 in
theorem am_kl41 : ((am_c262.getD 41 (0, [])).2.all (fun q => am_ck 262 q.1 q.2)) = true := by decide +kernel
set_option maxRecDepth 100000 in
set_option maxHeartbeats 4000000 in
theorem am_kl42 : ((am_c262.getD 42 (0, [])).2.all (fun q => am_ck 262 q.1 q.2)) = true := by decide +kernel
set_option maxRecDepth 100000 in
set_option maxHeartbeats 4000000 in
theorem am_kl43 : ((am_c262.getD 43 (0, [])).2.all (fun q => am_ck 262 q.1 q.2)) = true := by decide +kernel
set_option maxRecDepth 100000 in
set_option maxHeartbeats 4000000 in
theorem am_kl44 : ((am_c262.getD 44 (0, [])).2.all (fun q => am_ck 262 q.1 q.2)) = true := by decide +kernel
set_option maxRecDepth 100000 in
set_option maxHeartbeats 4000000 in
theorem am_kl45 : ((am_c262.getD 45 (0, [])).2.all (fun q => am_ck 262 q.1 q.2)) = true := by decide +kernel
set_option maxRecDepth 100000 in
set_option maxHeartbeats 4000000 in
theorem am_kl46 : ((am_c262.getD 46 (0, [])).2.all (fun q => am_ck 262 q.1 q.2)) = true := by decide +kernel
set_option maxRecDepth 100000 in
set_option maxHeartbeats 4000000 in
theorem am_kl47 : ((am_c262.getD 47 (0, [])).2.all (fun q => am_ck 262 q.1 q.2)) = true := by decide +kernel

set_option maxRecDepth 100000 in
set_option maxHeartbeats 4000000 in
theorem am_kl8 : ((am_c262.getD 8 (0, [])).2.all (fun q => am_ck 262 q.1 q.2)) = true := by decide +kernel
set_option maxRecDepth 100000 in
set_option maxHeartbeats 4000000 in
theorem am_kl9 : ((am_c262.getD 9 (0, [])).2.all (fun q => am_ck 262 q.1 q.2)) = true := by decide +kernel
set_option maxRecDepth 100000 in
set_option maxHeartbeats 4000000 in
theorem am_kl10 : ((am_c262.getD 10 (0, [])).2.all (fun q => am_ck 262 q.1 q.2)) = true := by decide +kernel
set_option maxRecDepth 100000 in
set_option maxHeartbeats 4000000 in
theorem am_kl11 : ((am_c262.getD 11 (0, [])).2.all (fun q => am_ck 262 q.1 q.2)) = true := by decide +kernel
set_option maxRecDepth 100000 in
set_option maxHeartbeats 4000000 in
theorem am_kl12 : ((am_c262.getD 12 (0, [])).2.all (fun q => am_ck 262 q.1 q.2)) = true := by decide +kernel
set_option maxRecDepth 100000 in
set_option maxHeartbeats 4000000 in
theorem am_kl13 : ((am_c262.getD 13 (0, [])).2.all (fun q => am_ck 262 q.1 q.2)) = true := by decide +kernel
set_option maxRecDepth 100000 in
set_option maxHeartbeats 4000000 in
theorem am_kl14 : ((am_c262.getD 14 (0, [])).2.all (fun q => am_ck 262 q.1 q.2)) = true := by decide +kernel
set_option maxRecDepth 100000 in
set_option maxHeartbeats 4000000 in
theorem am_kl15 : ((am_c262.getD 15 (0, [])).2.all (fun q => am_ck 262 q.1 q.2)) = true := by decide +kernel

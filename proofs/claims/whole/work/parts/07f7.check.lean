set_option maxRecDepth 100000 in
set_option maxHeartbeats 4000000 in
theorem am_kl56 : ((am_c262.getD 56 (0, [])).2.all (fun q => am_ck 262 q.1 q.2)) = true := by decide +kernel

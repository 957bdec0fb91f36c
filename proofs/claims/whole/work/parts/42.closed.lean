/-! closed turns at each place -/
theorem cl_11 : mt_PL.all (fun x => mt_qv (l_11 (mt_s0 mt_K1 x)) (fun S' => mt_kp mt_Q1 (mt_s0 mt_K1 x) S')) = true := by decide +kernel
theorem cl_22 : mt_PL.all (fun x => mt_qv (l_22 (mt_s0 mt_K1 x)) (fun S' => mt_kp mt_Q1 (mt_s0 mt_K1 x) S')) = true := by decide +kernel

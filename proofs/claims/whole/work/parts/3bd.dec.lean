/-! The instructions are those of the bytes, on (written by program). -/
set_option maxRecDepth 100000 in
theorem dc_102 : tb_102.all (fun q => q.2.all (xm_dcb prog_10_method_19_code)) = true := by decide +kernel
set_option maxRecDepth 100000 in
theorem dc_103 : tb_103.all (fun q => q.2.all (xm_dcb prog_10_method_23_code)) = true := by decide +kernel
set_option maxRecDepth 100000 in
theorem dc_104 : tb_104.all (fun q => q.2.all (xm_dcb prog_10_method_37_code)) = true := by decide +kernel
set_option maxRecDepth 100000 in
theorem dc_105 : tb_105.all (fun q => q.2.all (xm_dcb prog_10_method_29_code)) = true := by decide +kernel
set_option maxRecDepth 100000 in
theorem dc_106 : tb_106.all (fun q => q.2.all (xm_dcb prog_10_method_28_code)) = true := by decide +kernel
set_option maxRecDepth 100000 in
theorem dc_107 : tb_107.all (fun q => q.2.all (xm_dcb prog_10_method_27_code)) = true := by decide +kernel
set_option maxRecDepth 100000 in
theorem dc_108 : tb_108.all (fun q => q.2.all (xm_dcb prog_10_method_26_code)) = true := by decide +kernel
set_option maxRecDepth 100000 in
theorem dc_109 : tb_109.all (fun q => q.2.all (xm_dcb prog_10_method_34_code)) = true := by decide +kernel
set_option maxRecDepth 100000 in
theorem dc_110 : tb_110.all (fun q => q.2.all (xm_dcb prog_10_method_33_code)) = true := by decide +kernel
set_option maxRecDepth 100000 in
theorem dc_111 : tb_111.all (fun q => q.2.all (xm_dcb prog_10_method_32_code)) = true := by decide +kernel
set_option maxRecDepth 100000 in
theorem dc_112 : tb_112.all (fun q => q.2.all (xm_dcb prog_10_method_30_code)) = true := by decide +kernel
set_option maxRecDepth 100000 in
theorem dc_113 : tb_113.all (fun q => q.2.all (xm_dcb prog_10_method_31_code)) = true := by decide +kernel
set_option maxRecDepth 100000 in
theorem dc_114 : tb_114.all (fun q => q.2.all (xm_dcb prog_10_method_36_code)) = true := by decide +kernel
set_option maxRecDepth 100000 in
theorem dc_115 : tb_115.all (fun q => q.2.all (xm_dcb prog_10_method_35_code)) = true := by decide +kernel
set_option maxRecDepth 100000 in
theorem dc_116 : tb_116.all (fun q => q.2.all (xm_dcb prog_10_method_38_code)) = true := by decide +kernel
set_option maxRecDepth 100000 in
theorem dc_117 : tb_117.all (fun q => q.2.all (xm_dcb prog_10_method_40_code)) = true := by decide +kernel
set_option maxRecDepth 100000 in
theorem dc_118 : tb_118.all (fun q => q.2.all (xm_dcb prog_10_method_39_code)) = true := by decide +kernel
set_option maxRecDepth 100000 in
theorem dc_119 : tb_119.all (fun q => q.2.all (xm_dcb prog_10_method_41_code)) = true := by decide +kernel

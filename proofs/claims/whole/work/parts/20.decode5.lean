theorem uxD_114_0 : ux_chkI (uxM 114).2.1 0 (uxJ114.1.take 64) = true := by decide +kernel
theorem uxD_114_1 : ux_chkI (uxM 114).2.1 64 ((uxJ114.1.drop 64).take 64) = true := by decide +kernel
theorem uxD_114_2 : ux_chkI (uxM 114).2.1 128 (((uxJ114.1.drop 64).drop 64).take 64) = true := by decide +kernel
theorem uxD_114_3 : ux_chkI (uxM 114).2.1 192 ((((uxJ114.1.drop 64).drop 64).drop 64).take 64) = true := by decide +kernel
theorem uxD_114_4 : ux_chkI (uxM 114).2.1 256 (((((uxJ114.1.drop 64).drop 64).drop 64).drop 64).take 64) = true := by decide +kernel
theorem uxD_114_5 : ux_chkI (uxM 114).2.1 320 ((((((uxJ114.1.drop 64).drop 64).drop 64).drop 64).drop 64).take 64) = true := by decide +kernel
theorem uxD_114_6 : ux_chkI (uxM 114).2.1 384 (((((((uxJ114.1.drop 64).drop 64).drop 64).drop 64).drop 64).drop 64).take 64) = true := by decide +kernel
theorem uxD_114_7 : ux_chkI (uxM 114).2.1 448 (((((((uxJ114.1.drop 64).drop 64).drop 64).drop 64).drop 64).drop 64).drop 64) = true := by decide +kernel
theorem uxD_114 : ux_chkI (uxM 114).2.1 0 uxJ114.1 = true := ux_chkI_cut 64 _ _ uxD_114_0 (ux_chkI_cut 64 _ _ uxD_114_1 (ux_chkI_cut 64 _ _ uxD_114_2 (ux_chkI_cut 64 _ _ uxD_114_3 (ux_chkI_cut 64 _ _ uxD_114_4 (ux_chkI_cut 64 _ _ uxD_114_5 (ux_chkI_cut 64 _ _ uxD_114_6 (uxD_114_7)))))))
theorem uxD_115_0 : ux_chkI (uxM 115).2.1 0 (uxJ115.1.take 64) = true := by decide +kernel
theorem uxD_115_1 : ux_chkI (uxM 115).2.1 64 (uxJ115.1.drop 64) = true := by decide +kernel
theorem uxD_115 : ux_chkI (uxM 115).2.1 0 uxJ115.1 = true := ux_chkI_cut 64 _ _ uxD_115_0 (uxD_115_1)
theorem uxD_116_0 : ux_chkI (uxM 116).2.1 0 uxJ116.1 = true := by decide +kernel
theorem uxD_116 : ux_chkI (uxM 116).2.1 0 uxJ116.1 = true := uxD_116_0
theorem uxD_117_0 : ux_chkI (uxM 117).2.1 0 uxJ117.1 = true := by decide +kernel
theorem uxD_117 : ux_chkI (uxM 117).2.1 0 uxJ117.1 = true := uxD_117_0
theorem uxD_118_0 : ux_chkI (uxM 118).2.1 0 uxJ118.1 = true := by decide +kernel
theorem uxD_118 : ux_chkI (uxM 118).2.1 0 uxJ118.1 = true := uxD_118_0

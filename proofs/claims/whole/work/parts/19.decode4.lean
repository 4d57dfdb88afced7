theorem uxD_92_0 : ux_chkI (uxM 92).2.1 0 (uxJ92.1.take 64) = true := by decide +kernel
theorem uxD_92_1 : ux_chkI (uxM 92).2.1 64 ((uxJ92.1.drop 64).take 64) = true := by decide +kernel
theorem uxD_92_2 : ux_chkI (uxM 92).2.1 128 (((uxJ92.1.drop 64).drop 64).take 64) = true := by decide +kernel
theorem uxD_92_3 : ux_chkI (uxM 92).2.1 192 (((uxJ92.1.drop 64).drop 64).drop 64) = true := by decide +kernel
theorem uxD_92 : ux_chkI (uxM 92).2.1 0 uxJ92.1 = true := ux_chkI_cut 64 _ _ uxD_92_0 (ux_chkI_cut 64 _ _ uxD_92_1 (ux_chkI_cut 64 _ _ uxD_92_2 (uxD_92_3)))
theorem uxD_93_0 : ux_chkI (uxM 93).2.1 0 uxJ93.1 = true := by decide +kernel
theorem uxD_93 : ux_chkI (uxM 93).2.1 0 uxJ93.1 = true := uxD_93_0
theorem uxD_94_0 : ux_chkI (uxM 94).2.1 0 (uxJ94.1.take 64) = true := by decide +kernel
theorem uxD_94_1 : ux_chkI (uxM 94).2.1 64 ((uxJ94.1.drop 64).take 64) = true := by decide +kernel
theorem uxD_94_2 : ux_chkI (uxM 94).2.1 128 (((uxJ94.1.drop 64).drop 64).take 64) = true := by decide +kernel
theorem uxD_94_3 : ux_chkI (uxM 94).2.1 192 (((uxJ94.1.drop 64).drop 64).drop 64) = true := by decide +kernel
theorem uxD_94 : ux_chkI (uxM 94).2.1 0 uxJ94.1 = true := ux_chkI_cut 64 _ _ uxD_94_0 (ux_chkI_cut 64 _ _ uxD_94_1 (ux_chkI_cut 64 _ _ uxD_94_2 (uxD_94_3)))
theorem uxD_95_0 : ux_chkI (uxM 95).2.1 0 uxJ95.1 = true := by decide +kernel
theorem uxD_95 : ux_chkI (uxM 95).2.1 0 uxJ95.1 = true := uxD_95_0
theorem uxD_96_0 : ux_chkI (uxM 96).2.1 0 uxJ96.1 = true := by decide +kernel
theorem uxD_96 : ux_chkI (uxM 96).2.1 0 uxJ96.1 = true := uxD_96_0
theorem uxD_97_0 : ux_chkI (uxM 97).2.1 0 uxJ97.1 = true := by decide +kernel
theorem uxD_97 : ux_chkI (uxM 97).2.1 0 uxJ97.1 = true := uxD_97_0
theorem uxD_98_0 : ux_chkI (uxM 98).2.1 0 uxJ98.1 = true := by decide +kernel
theorem uxD_98 : ux_chkI (uxM 98).2.1 0 uxJ98.1 = true := uxD_98_0
theorem uxD_99_0 : ux_chkI (uxM 99).2.1 0 uxJ99.1 = true := by decide +kernel
theorem uxD_99 : ux_chkI (uxM 99).2.1 0 uxJ99.1 = true := uxD_99_0
theorem uxD_100_0 : ux_chkI (uxM 100).2.1 0 uxJ100.1 = true := by decide +kernel
theorem uxD_100 : ux_chkI (uxM 100).2.1 0 uxJ100.1 = true := uxD_100_0
theorem uxD_101_0 : ux_chkI (uxM 101).2.1 0 uxJ101.1 = true := by decide +kernel
theorem uxD_101 : ux_chkI (uxM 101).2.1 0 uxJ101.1 = true := uxD_101_0
theorem uxD_102_0 : ux_chkI (uxM 102).2.1 0 (uxJ102.1.take 64) = true := by decide +kernel
theorem uxD_102_1 : ux_chkI (uxM 102).2.1 64 (uxJ102.1.drop 64) = true := by decide +kernel
theorem uxD_102 : ux_chkI (uxM 102).2.1 0 uxJ102.1 = true := ux_chkI_cut 64 _ _ uxD_102_0 (uxD_102_1)
theorem uxD_103_0 : ux_chkI (uxM 103).2.1 0 (uxJ103.1.take 64) = true := by decide +kernel
theorem uxD_103_1 : ux_chkI (uxM 103).2.1 64 ((uxJ103.1.drop 64).take 64) = true := by decide +kernel
theorem uxD_103_2 : ux_chkI (uxM 103).2.1 128 (((uxJ103.1.drop 64).drop 64).take 64) = true := by decide +kernel
theorem uxD_103_3 : ux_chkI (uxM 103).2.1 192 ((((uxJ103.1.drop 64).drop 64).drop 64).take 64) = true := by decide +kernel
theorem uxD_103_4 : ux_chkI (uxM 103).2.1 256 ((((uxJ103.1.drop 64).drop 64).drop 64).drop 64) = true := by decide +kernel
theorem uxD_103 : ux_chkI (uxM 103).2.1 0 uxJ103.1 = true := ux_chkI_cut 64 _ _ uxD_103_0 (ux_chkI_cut 64 _ _ uxD_103_1 (ux_chkI_cut 64 _ _ uxD_103_2 (ux_chkI_cut 64 _ _ uxD_103_3 (uxD_103_4))))
theorem uxD_104_0 : ux_chkI (uxM 104).2.1 0 uxJ104.1 = true := by decide +kernel
theorem uxD_104 : ux_chkI (uxM 104).2.1 0 uxJ104.1 = true := uxD_104_0
theorem uxD_105_0 : ux_chkI (uxM 105).2.1 0 (uxJ105.1.take 64) = true := by decide +kernel
theorem uxD_105_1 : ux_chkI (uxM 105).2.1 64 ((uxJ105.1.drop 64).take 64) = true := by decide +kernel
theorem uxD_105_2 : ux_chkI (uxM 105).2.1 128 ((uxJ105.1.drop 64).drop 64) = true := by decide +kernel
theorem uxD_105 : ux_chkI (uxM 105).2.1 0 uxJ105.1 = true := ux_chkI_cut 64 _ _ uxD_105_0 (ux_chkI_cut 64 _ _ uxD_105_1 (uxD_105_2))
theorem uxD_106_0 : ux_chkI (uxM 106).2.1 0 uxJ106.1 = true := by decide +kernel
theorem uxD_106 : ux_chkI (uxM 106).2.1 0 uxJ106.1 = true := uxD_106_0
theorem uxD_107_0 : ux_chkI (uxM 107).2.1 0 (uxJ107.1.take 64) = true := by decide +kernel
theorem uxD_107_1 : ux_chkI (uxM 107).2.1 64 (uxJ107.1.drop 64) = true := by decide +kernel
theorem uxD_107 : ux_chkI (uxM 107).2.1 0 uxJ107.1 = true := ux_chkI_cut 64 _ _ uxD_107_0 (uxD_107_1)
theorem uxD_108_0 : ux_chkI (uxM 108).2.1 0 (uxJ108.1.take 64) = true := by decide +kernel
theorem uxD_108_1 : ux_chkI (uxM 108).2.1 64 ((uxJ108.1.drop 64).take 64) = true := by decide +kernel
theorem uxD_108_2 : ux_chkI (uxM 108).2.1 128 (((uxJ108.1.drop 64).drop 64).take 64) = true := by decide +kernel
theorem uxD_108_3 : ux_chkI (uxM 108).2.1 192 (((uxJ108.1.drop 64).drop 64).drop 64) = true := by decide +kernel
theorem uxD_108 : ux_chkI (uxM 108).2.1 0 uxJ108.1 = true := ux_chkI_cut 64 _ _ uxD_108_0 (ux_chkI_cut 64 _ _ uxD_108_1 (ux_chkI_cut 64 _ _ uxD_108_2 (uxD_108_3)))
theorem uxD_109_0 : ux_chkI (uxM 109).2.1 0 uxJ109.1 = true := by decide +kernel
theorem uxD_109 : ux_chkI (uxM 109).2.1 0 uxJ109.1 = true := uxD_109_0
theorem uxD_110_0 : ux_chkI (uxM 110).2.1 0 uxJ110.1 = true := by decide +kernel
theorem uxD_110 : ux_chkI (uxM 110).2.1 0 uxJ110.1 = true := uxD_110_0
theorem uxD_111_0 : ux_chkI (uxM 111).2.1 0 (uxJ111.1.take 64) = true := by decide +kernel
theorem uxD_111_1 : ux_chkI (uxM 111).2.1 64 ((uxJ111.1.drop 64).take 64) = true := by decide +kernel
theorem uxD_111_2 : ux_chkI (uxM 111).2.1 128 ((uxJ111.1.drop 64).drop 64) = true := by decide +kernel
theorem uxD_111 : ux_chkI (uxM 111).2.1 0 uxJ111.1 = true := ux_chkI_cut 64 _ _ uxD_111_0 (ux_chkI_cut 64 _ _ uxD_111_1 (uxD_111_2))
theorem uxD_112_0 : ux_chkI (uxM 112).2.1 0 uxJ112.1 = true := by decide +kernel
theorem uxD_112 : ux_chkI (uxM 112).2.1 0 uxJ112.1 = true := uxD_112_0
theorem uxD_113_0 : ux_chkI (uxM 113).2.1 0 uxJ113.1 = true := by decide +kernel
theorem uxD_113 : ux_chkI (uxM 113).2.1 0 uxJ113.1 = true := uxD_113_0

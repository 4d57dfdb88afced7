theorem uxD_67_0 : ux_chkI (uxM 67).2.1 0 (uxJ67.1.take 64) = true := by decide +kernel
theorem uxD_67_1 : ux_chkI (uxM 67).2.1 64 (uxJ67.1.drop 64) = true := by decide +kernel
theorem uxD_67 : ux_chkI (uxM 67).2.1 0 uxJ67.1 = true := ux_chkI_cut 64 _ _ uxD_67_0 (uxD_67_1)
theorem uxD_68_0 : ux_chkI (uxM 68).2.1 0 uxJ68.1 = true := by decide +kernel
theorem uxD_68 : ux_chkI (uxM 68).2.1 0 uxJ68.1 = true := uxD_68_0
theorem uxD_69_0 : ux_chkI (uxM 69).2.1 0 uxJ69.1 = true := by decide +kernel
theorem uxD_69 : ux_chkI (uxM 69).2.1 0 uxJ69.1 = true := uxD_69_0
theorem uxD_70_0 : ux_chkI (uxM 70).2.1 0 (uxJ70.1.take 64) = true := by decide +kernel
theorem uxD_70_1 : ux_chkI (uxM 70).2.1 64 (uxJ70.1.drop 64) = true := by decide +kernel
theorem uxD_70 : ux_chkI (uxM 70).2.1 0 uxJ70.1 = true := ux_chkI_cut 64 _ _ uxD_70_0 (uxD_70_1)
theorem uxD_71_0 : ux_chkI (uxM 71).2.1 0 (uxJ71.1.take 64) = true := by decide +kernel
theorem uxD_71_1 : ux_chkI (uxM 71).2.1 64 ((uxJ71.1.drop 64).take 64) = true := by decide +kernel
theorem uxD_71_2 : ux_chkI (uxM 71).2.1 128 ((uxJ71.1.drop 64).drop 64) = true := by decide +kernel
theorem uxD_71 : ux_chkI (uxM 71).2.1 0 uxJ71.1 = true := ux_chkI_cut 64 _ _ uxD_71_0 (ux_chkI_cut 64 _ _ uxD_71_1 (uxD_71_2))
theorem uxD_72_0 : ux_chkI (uxM 72).2.1 0 uxJ72.1 = true := by decide +kernel
theorem uxD_72 : ux_chkI (uxM 72).2.1 0 uxJ72.1 = true := uxD_72_0
theorem uxD_73_0 : ux_chkI (uxM 73).2.1 0 uxJ73.1 = true := by decide +kernel
theorem uxD_73 : ux_chkI (uxM 73).2.1 0 uxJ73.1 = true := uxD_73_0
theorem uxD_74_0 : ux_chkI (uxM 74).2.1 0 uxJ74.1 = true := by decide +kernel
theorem uxD_74 : ux_chkI (uxM 74).2.1 0 uxJ74.1 = true := uxD_74_0
theorem uxD_75_0 : ux_chkI (uxM 75).2.1 0 uxJ75.1 = true := by decide +kernel
theorem uxD_75 : ux_chkI (uxM 75).2.1 0 uxJ75.1 = true := uxD_75_0
theorem uxD_76_0 : ux_chkI (uxM 76).2.1 0 uxJ76.1 = true := by decide +kernel
theorem uxD_76 : ux_chkI (uxM 76).2.1 0 uxJ76.1 = true := uxD_76_0
theorem uxD_77_0 : ux_chkI (uxM 77).2.1 0 (uxJ77.1.take 64) = true := by decide +kernel
theorem uxD_77_1 : ux_chkI (uxM 77).2.1 64 (uxJ77.1.drop 64) = true := by decide +kernel
theorem uxD_77 : ux_chkI (uxM 77).2.1 0 uxJ77.1 = true := ux_chkI_cut 64 _ _ uxD_77_0 (uxD_77_1)
theorem uxD_78_0 : ux_chkI (uxM 78).2.1 0 (uxJ78.1.take 64) = true := by decide +kernel
theorem uxD_78_1 : ux_chkI (uxM 78).2.1 64 (uxJ78.1.drop 64) = true := by decide +kernel
theorem uxD_78 : ux_chkI (uxM 78).2.1 0 uxJ78.1 = true := ux_chkI_cut 64 _ _ uxD_78_0 (uxD_78_1)
theorem uxD_79_0 : ux_chkI (uxM 79).2.1 0 (uxJ79.1.take 64) = true := by decide +kernel
theorem uxD_79_1 : ux_chkI (uxM 79).2.1 64 ((uxJ79.1.drop 64).take 64) = true := by decide +kernel
theorem uxD_79_2 : ux_chkI (uxM 79).2.1 128 (((uxJ79.1.drop 64).drop 64).take 64) = true := by decide +kernel
theorem uxD_79_3 : ux_chkI (uxM 79).2.1 192 (((uxJ79.1.drop 64).drop 64).drop 64) = true := by decide +kernel
theorem uxD_79 : ux_chkI (uxM 79).2.1 0 uxJ79.1 = true := ux_chkI_cut 64 _ _ uxD_79_0 (ux_chkI_cut 64 _ _ uxD_79_1 (ux_chkI_cut 64 _ _ uxD_79_2 (uxD_79_3)))
theorem uxD_80_0 : ux_chkI (uxM 80).2.1 0 uxJ80.1 = true := by decide +kernel
theorem uxD_80 : ux_chkI (uxM 80).2.1 0 uxJ80.1 = true := uxD_80_0
theorem uxD_81_0 : ux_chkI (uxM 81).2.1 0 (uxJ81.1.take 64) = true := by decide +kernel
theorem uxD_81_1 : ux_chkI (uxM 81).2.1 64 (uxJ81.1.drop 64) = true := by decide +kernel
theorem uxD_81 : ux_chkI (uxM 81).2.1 0 uxJ81.1 = true := ux_chkI_cut 64 _ _ uxD_81_0 (uxD_81_1)
theorem uxD_82_0 : ux_chkI (uxM 82).2.1 0 uxJ82.1 = true := by decide +kernel
theorem uxD_82 : ux_chkI (uxM 82).2.1 0 uxJ82.1 = true := uxD_82_0
theorem uxD_83_0 : ux_chkI (uxM 83).2.1 0 uxJ83.1 = true := by decide +kernel
theorem uxD_83 : ux_chkI (uxM 83).2.1 0 uxJ83.1 = true := uxD_83_0
theorem uxD_84_0 : ux_chkI (uxM 84).2.1 0 uxJ84.1 = true := by decide +kernel
theorem uxD_84 : ux_chkI (uxM 84).2.1 0 uxJ84.1 = true := uxD_84_0
theorem uxD_85_0 : ux_chkI (uxM 85).2.1 0 (uxJ85.1.take 64) = true := by decide +kernel
theorem uxD_85_1 : ux_chkI (uxM 85).2.1 64 (uxJ85.1.drop 64) = true := by decide +kernel
theorem uxD_85 : ux_chkI (uxM 85).2.1 0 uxJ85.1 = true := ux_chkI_cut 64 _ _ uxD_85_0 (uxD_85_1)
theorem uxD_86_0 : ux_chkI (uxM 86).2.1 0 uxJ86.1 = true := by decide +kernel
theorem uxD_86 : ux_chkI (uxM 86).2.1 0 uxJ86.1 = true := uxD_86_0
theorem uxD_87_0 : ux_chkI (uxM 87).2.1 0 uxJ87.1 = true := by decide +kernel
theorem uxD_87 : ux_chkI (uxM 87).2.1 0 uxJ87.1 = true := uxD_87_0
theorem uxD_88_0 : ux_chkI (uxM 88).2.1 0 (uxJ88.1.take 64) = true := by decide +kernel
theorem uxD_88_1 : ux_chkI (uxM 88).2.1 64 ((uxJ88.1.drop 64).take 64) = true := by decide +kernel
theorem uxD_88_2 : ux_chkI (uxM 88).2.1 128 ((uxJ88.1.drop 64).drop 64) = true := by decide +kernel
theorem uxD_88 : ux_chkI (uxM 88).2.1 0 uxJ88.1 = true := ux_chkI_cut 64 _ _ uxD_88_0 (ux_chkI_cut 64 _ _ uxD_88_1 (uxD_88_2))
theorem uxD_89_0 : ux_chkI (uxM 89).2.1 0 (uxJ89.1.take 64) = true := by decide +kernel
theorem uxD_89_1 : ux_chkI (uxM 89).2.1 64 ((uxJ89.1.drop 64).take 64) = true := by decide +kernel
theorem uxD_89_2 : ux_chkI (uxM 89).2.1 128 ((uxJ89.1.drop 64).drop 64) = true := by decide +kernel
theorem uxD_89 : ux_chkI (uxM 89).2.1 0 uxJ89.1 = true := ux_chkI_cut 64 _ _ uxD_89_0 (ux_chkI_cut 64 _ _ uxD_89_1 (uxD_89_2))
theorem uxD_90_0 : ux_chkI (uxM 90).2.1 0 uxJ90.1 = true := by decide +kernel
theorem uxD_90 : ux_chkI (uxM 90).2.1 0 uxJ90.1 = true := uxD_90_0
theorem uxD_91_0 : ux_chkI (uxM 91).2.1 0 (uxJ91.1.take 64) = true := by decide +kernel
theorem uxD_91_1 : ux_chkI (uxM 91).2.1 64 ((uxJ91.1.drop 64).take 64) = true := by decide +kernel
theorem uxD_91_2 : ux_chkI (uxM 91).2.1 128 ((uxJ91.1.drop 64).drop 64) = true := by decide +kernel
theorem uxD_91 : ux_chkI (uxM 91).2.1 0 uxJ91.1 = true := ux_chkI_cut 64 _ _ uxD_91_0 (ux_chkI_cut 64 _ _ uxD_91_1 (uxD_91_2))

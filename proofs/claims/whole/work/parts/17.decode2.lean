theorem uxD_19_0 : ux_chkI (uxM 19).2.1 0 uxJ19.1 = true := by decide +kernel
theorem uxD_19 : ux_chkI (uxM 19).2.1 0 uxJ19.1 = true := uxD_19_0
theorem uxD_20_0 : ux_chkI (uxM 20).2.1 0 (uxJ20.1.take 64) = true := by decide +kernel
theorem uxD_20_1 : ux_chkI (uxM 20).2.1 64 ((uxJ20.1.drop 64).take 64) = true := by decide +kernel
theorem uxD_20_2 : ux_chkI (uxM 20).2.1 128 ((uxJ20.1.drop 64).drop 64) = true := by decide +kernel
theorem uxD_20 : ux_chkI (uxM 20).2.1 0 uxJ20.1 = true := ux_chkI_cut 64 _ _ uxD_20_0 (ux_chkI_cut 64 _ _ uxD_20_1 (uxD_20_2))
theorem uxD_21_0 : ux_chkI (uxM 21).2.1 0 uxJ21.1 = true := by decide +kernel
theorem uxD_21 : ux_chkI (uxM 21).2.1 0 uxJ21.1 = true := uxD_21_0
theorem uxD_22_0 : ux_chkI (uxM 22).2.1 0 uxJ22.1 = true := by decide +kernel
theorem uxD_22 : ux_chkI (uxM 22).2.1 0 uxJ22.1 = true := uxD_22_0
theorem uxD_23_0 : ux_chkI (uxM 23).2.1 0 uxJ23.1 = true := by decide +kernel
theorem uxD_23 : ux_chkI (uxM 23).2.1 0 uxJ23.1 = true := uxD_23_0
theorem uxD_24_0 : ux_chkI (uxM 24).2.1 0 uxJ24.1 = true := by decide +kernel
theorem uxD_24 : ux_chkI (uxM 24).2.1 0 uxJ24.1 = true := uxD_24_0
theorem uxD_25_0 : ux_chkI (uxM 25).2.1 0 uxJ25.1 = true := by decide +kernel
theorem uxD_25 : ux_chkI (uxM 25).2.1 0 uxJ25.1 = true := uxD_25_0
theorem uxD_26_0 : ux_chkI (uxM 26).2.1 0 uxJ26.1 = true := by decide +kernel
theorem uxD_26 : ux_chkI (uxM 26).2.1 0 uxJ26.1 = true := uxD_26_0
theorem uxD_27_0 : ux_chkI (uxM 27).2.1 0 uxJ27.1 = true := by decide +kernel
theorem uxD_27 : ux_chkI (uxM 27).2.1 0 uxJ27.1 = true := uxD_27_0
theorem uxD_28_0 : ux_chkI (uxM 28).2.1 0 (uxJ28.1.take 64) = true := by decide +kernel
theorem uxD_28_1 : ux_chkI (uxM 28).2.1 64 (uxJ28.1.drop 64) = true := by decide +kernel
theorem uxD_28 : ux_chkI (uxM 28).2.1 0 uxJ28.1 = true := ux_chkI_cut 64 _ _ uxD_28_0 (uxD_28_1)
theorem uxD_29_0 : ux_chkI (uxM 29).2.1 0 uxJ29.1 = true := by decide +kernel
theorem uxD_29 : ux_chkI (uxM 29).2.1 0 uxJ29.1 = true := uxD_29_0
theorem uxD_30_0 : ux_chkI (uxM 30).2.1 0 uxJ30.1 = true := by decide +kernel
theorem uxD_30 : ux_chkI (uxM 30).2.1 0 uxJ30.1 = true := uxD_30_0
theorem uxD_31_0 : ux_chkI (uxM 31).2.1 0 (uxJ31.1.take 64) = true := by decide +kernel
theorem uxD_31_1 : ux_chkI (uxM 31).2.1 64 (uxJ31.1.drop 64) = true := by decide +kernel
theorem uxD_31 : ux_chkI (uxM 31).2.1 0 uxJ31.1 = true := ux_chkI_cut 64 _ _ uxD_31_0 (uxD_31_1)
theorem uxD_32_0 : ux_chkI (uxM 32).2.1 0 uxJ32.1 = true := by decide +kernel
theorem uxD_32 : ux_chkI (uxM 32).2.1 0 uxJ32.1 = true := uxD_32_0
theorem uxD_33_0 : ux_chkI (uxM 33).2.1 0 uxJ33.1 = true := by decide +kernel
theorem uxD_33 : ux_chkI (uxM 33).2.1 0 uxJ33.1 = true := uxD_33_0
theorem uxD_34_0 : ux_chkI (uxM 34).2.1 0 (uxJ34.1.take 64) = true := by decide +kernel
theorem uxD_34_1 : ux_chkI (uxM 34).2.1 64 (uxJ34.1.drop 64) = true := by decide +kernel
theorem uxD_34 : ux_chkI (uxM 34).2.1 0 uxJ34.1 = true := ux_chkI_cut 64 _ _ uxD_34_0 (uxD_34_1)
theorem uxD_35_0 : ux_chkI (uxM 35).2.1 0 uxJ35.1 = true := by decide +kernel
theorem uxD_35 : ux_chkI (uxM 35).2.1 0 uxJ35.1 = true := uxD_35_0
theorem uxD_36_0 : ux_chkI (uxM 36).2.1 0 uxJ36.1 = true := by decide +kernel
theorem uxD_36 : ux_chkI (uxM 36).2.1 0 uxJ36.1 = true := uxD_36_0
theorem uxD_37_0 : ux_chkI (uxM 37).2.1 0 (uxJ37.1.take 64) = true := by decide +kernel
theorem uxD_37_1 : ux_chkI (uxM 37).2.1 64 (uxJ37.1.drop 64) = true := by decide +kernel
theorem uxD_37 : ux_chkI (uxM 37).2.1 0 uxJ37.1 = true := ux_chkI_cut 64 _ _ uxD_37_0 (uxD_37_1)
theorem uxD_38_0 : ux_chkI (uxM 38).2.1 0 uxJ38.1 = true := by decide +kernel
theorem uxD_38 : ux_chkI (uxM 38).2.1 0 uxJ38.1 = true := uxD_38_0
theorem uxD_39_0 : ux_chkI (uxM 39).2.1 0 (uxJ39.1.take 64) = true := by decide +kernel
theorem uxD_39_1 : ux_chkI (uxM 39).2.1 64 (uxJ39.1.drop 64) = true := by decide +kernel
theorem uxD_39 : ux_chkI (uxM 39).2.1 0 uxJ39.1 = true := ux_chkI_cut 64 _ _ uxD_39_0 (uxD_39_1)
theorem uxD_40_0 : ux_chkI (uxM 40).2.1 0 (uxJ40.1.take 64) = true := by decide +kernel
theorem uxD_40_1 : ux_chkI (uxM 40).2.1 64 (uxJ40.1.drop 64) = true := by decide +kernel
theorem uxD_40 : ux_chkI (uxM 40).2.1 0 uxJ40.1 = true := ux_chkI_cut 64 _ _ uxD_40_0 (uxD_40_1)
theorem uxD_41_0 : ux_chkI (uxM 41).2.1 0 uxJ41.1 = true := by decide +kernel
theorem uxD_41 : ux_chkI (uxM 41).2.1 0 uxJ41.1 = true := uxD_41_0
theorem uxD_42_0 : ux_chkI (uxM 42).2.1 0 uxJ42.1 = true := by decide +kernel
theorem uxD_42 : ux_chkI (uxM 42).2.1 0 uxJ42.1 = true := uxD_42_0
theorem uxD_43_0 : ux_chkI (uxM 43).2.1 0 uxJ43.1 = true := by decide +kernel
theorem uxD_43 : ux_chkI (uxM 43).2.1 0 uxJ43.1 = true := uxD_43_0
theorem uxD_44_0 : ux_chkI (uxM 44).2.1 0 uxJ44.1 = true := by decide +kernel
theorem uxD_44 : ux_chkI (uxM 44).2.1 0 uxJ44.1 = true := uxD_44_0
theorem uxD_45_0 : ux_chkI (uxM 45).2.1 0 uxJ45.1 = true := by decide +kernel
theorem uxD_45 : ux_chkI (uxM 45).2.1 0 uxJ45.1 = true := uxD_45_0
theorem uxD_46_0 : ux_chkI (uxM 46).2.1 0 uxJ46.1 = true := by decide +kernel
theorem uxD_46 : ux_chkI (uxM 46).2.1 0 uxJ46.1 = true := uxD_46_0
theorem uxD_47_0 : ux_chkI (uxM 47).2.1 0 uxJ47.1 = true := by decide +kernel
theorem uxD_47 : ux_chkI (uxM 47).2.1 0 uxJ47.1 = true := uxD_47_0
theorem uxD_48_0 : ux_chkI (uxM 48).2.1 0 uxJ48.1 = true := by decide +kernel
theorem uxD_48 : ux_chkI (uxM 48).2.1 0 uxJ48.1 = true := uxD_48_0
theorem uxD_49_0 : ux_chkI (uxM 49).2.1 0 uxJ49.1 = true := by decide +kernel
theorem uxD_49 : ux_chkI (uxM 49).2.1 0 uxJ49.1 = true := uxD_49_0
theorem uxD_50_0 : ux_chkI (uxM 50).2.1 0 uxJ50.1 = true := by decide +kernel
theorem uxD_50 : ux_chkI (uxM 50).2.1 0 uxJ50.1 = true := uxD_50_0
theorem uxD_51_0 : ux_chkI (uxM 51).2.1 0 uxJ51.1 = true := by decide +kernel
theorem uxD_51 : ux_chkI (uxM 51).2.1 0 uxJ51.1 = true := uxD_51_0
theorem uxD_52_0 : ux_chkI (uxM 52).2.1 0 uxJ52.1 = true := by decide +kernel
theorem uxD_52 : ux_chkI (uxM 52).2.1 0 uxJ52.1 = true := uxD_52_0
theorem uxD_53_0 : ux_chkI (uxM 53).2.1 0 uxJ53.1 = true := by decide +kernel
theorem uxD_53 : ux_chkI (uxM 53).2.1 0 uxJ53.1 = true := uxD_53_0
theorem uxD_54_0 : ux_chkI (uxM 54).2.1 0 uxJ54.1 = true := by decide +kernel
theorem uxD_54 : ux_chkI (uxM 54).2.1 0 uxJ54.1 = true := uxD_54_0
theorem uxD_55_0 : ux_chkI (uxM 55).2.1 0 uxJ55.1 = true := by decide +kernel
theorem uxD_55 : ux_chkI (uxM 55).2.1 0 uxJ55.1 = true := uxD_55_0
theorem uxD_56_0 : ux_chkI (uxM 56).2.1 0 uxJ56.1 = true := by decide +kernel
theorem uxD_56 : ux_chkI (uxM 56).2.1 0 uxJ56.1 = true := uxD_56_0
theorem uxD_57_0 : ux_chkI (uxM 57).2.1 0 uxJ57.1 = true := by decide +kernel
theorem uxD_57 : ux_chkI (uxM 57).2.1 0 uxJ57.1 = true := uxD_57_0
theorem uxD_58_0 : ux_chkI (uxM 58).2.1 0 uxJ58.1 = true := by decide +kernel
theorem uxD_58 : ux_chkI (uxM 58).2.1 0 uxJ58.1 = true := uxD_58_0
theorem uxD_59_0 : ux_chkI (uxM 59).2.1 0 uxJ59.1 = true := by decide +kernel
theorem uxD_59 : ux_chkI (uxM 59).2.1 0 uxJ59.1 = true := uxD_59_0
theorem uxD_60_0 : ux_chkI (uxM 60).2.1 0 uxJ60.1 = true := by decide +kernel
theorem uxD_60 : ux_chkI (uxM 60).2.1 0 uxJ60.1 = true := uxD_60_0
theorem uxD_61_0 : ux_chkI (uxM 61).2.1 0 uxJ61.1 = true := by decide +kernel
theorem uxD_61 : ux_chkI (uxM 61).2.1 0 uxJ61.1 = true := uxD_61_0
theorem uxD_62_0 : ux_chkI (uxM 62).2.1 0 uxJ62.1 = true := by decide +kernel
theorem uxD_62 : ux_chkI (uxM 62).2.1 0 uxJ62.1 = true := uxD_62_0
theorem uxD_63_0 : ux_chkI (uxM 63).2.1 0 (uxJ63.1.take 64) = true := by decide +kernel
theorem uxD_63_1 : ux_chkI (uxM 63).2.1 64 (uxJ63.1.drop 64) = true := by decide +kernel
theorem uxD_63 : ux_chkI (uxM 63).2.1 0 uxJ63.1 = true := ux_chkI_cut 64 _ _ uxD_63_0 (uxD_63_1)
theorem uxD_64_0 : ux_chkI (uxM 64).2.1 0 uxJ64.1 = true := by decide +kernel
theorem uxD_64 : ux_chkI (uxM 64).2.1 0 uxJ64.1 = true := uxD_64_0
theorem uxD_65_0 : ux_chkI (uxM 65).2.1 0 uxJ65.1 = true := by decide +kernel
theorem uxD_65 : ux_chkI (uxM 65).2.1 0 uxJ65.1 = true := uxD_65_0
theorem uxD_66_0 : ux_chkI (uxM 66).2.1 0 uxJ66.1 = true := by decide +kernel
theorem uxD_66 : ux_chkI (uxM 66).2.1 0 uxJ66.1 = true := uxD_66_0

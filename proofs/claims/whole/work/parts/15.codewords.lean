theorem uxW_1 : ux_pos 60 (.code (uxM 1).1 (uxM 1).2.1 2 (uxM 1).2.2.1) = true := by decide +kernel
theorem uxW_2 : ux_pos 72 (.code (uxM 2).1 (uxM 2).2.1 1 (uxM 2).2.2.1) = true := by decide +kernel
theorem uxW_3 : ux_pos 91 (.code (uxM 3).1 (uxM 3).2.1 2 (uxM 3).2.2.1) = true := by decide +kernel
theorem uxW_4 : ux_pos 115 (.code (uxM 4).1 (uxM 4).2.1 1 (uxM 4).2.2.1) = true := by decide +kernel
theorem uxW_5 : ux_pos 147 (.code (uxM 5).1 (uxM 5).2.1 1 (uxM 5).2.2.1) = true := by decide +kernel
theorem uxW_6 : ux_pos 162 (.code (uxM 6).1 (uxM 6).2.1 2 (uxM 6).2.2.1) = true := by decide +kernel
theorem uxW_7 : ux_pos 169 (.code (uxM 7).1 (uxM 7).2.1 1 (uxM 7).2.2.1) = true := by decide +kernel
theorem uxW_8 : ux_pos 237 (.code (uxM 8).1 (uxM 8).2.1 2 (uxM 8).2.2.1) = true := by decide +kernel
theorem uxW_9 : ux_pos 241 (.code (uxM 9).1 (uxM 9).2.1 3 (uxM 9).2.2.1) = true := by decide +kernel
theorem uxW_10 : ux_pos 245 (.code (uxM 10).1 (uxM 10).2.1 5 (uxM 10).2.2.1) = true := by decide +kernel
theorem uxW_11 : ux_pos 249 (.code (uxM 11).1 (uxM 11).2.1 5 (uxM 11).2.2.1) = true := by decide +kernel
theorem uxW_12 : ux_pos 253 (.code (uxM 12).1 (uxM 12).2.1 3 (uxM 12).2.2.1) = true := by decide +kernel
theorem uxW_13 : ux_pos 257 (.code (uxM 13).1 (uxM 13).2.1 3 (uxM 13).2.2.1) = true := by decide +kernel
theorem uxW_14 : ux_pos 261 (.code (uxM 14).1 (uxM 14).2.1 1 (uxM 14).2.2.1) = true := by decide +kernel
theorem uxW_15 : ux_pos 265 (.code (uxM 15).1 (uxM 15).2.1 4 (uxM 15).2.2.1) = true := by decide +kernel
theorem uxW_16 : ux_pos 269 (.code (uxM 16).1 (uxM 16).2.1 3 (uxM 16).2.2.1) = true := by decide +kernel
theorem uxW_17 : ux_pos 273 (.code (uxM 17).1 (uxM 17).2.1 3 (uxM 17).2.2.1) = true := by decide +kernel
theorem uxW_18 : ux_pos 276 (.code (uxM 18).1 (uxM 18).2.1 1 (uxM 18).2.2.1) = true := by decide +kernel
theorem uxW_19 : ux_pos 280 (.code (uxM 19).1 (uxM 19).2.1 7 (uxM 19).2.2.1) = true := by decide +kernel
theorem uxW_20 : ux_pos 284 (.code (uxM 20).1 (uxM 20).2.1 5 (uxM 20).2.2.1) = true := by decide +kernel
theorem uxW_21 : ux_pos 288 (.code (uxM 21).1 (uxM 21).2.1 2 (uxM 21).2.2.1) = true := by decide +kernel
theorem uxW_22 : ux_pos 292 (.code (uxM 22).1 (uxM 22).2.1 3 (uxM 22).2.2.1) = true := by decide +kernel
theorem uxW_23 : ux_pos 295 (.code (uxM 23).1 (uxM 23).2.1 1 (uxM 23).2.2.1) = true := by decide +kernel
theorem uxW_24 : ux_pos 299 (.code (uxM 24).1 (uxM 24).2.1 3 (uxM 24).2.2.1) = true := by decide +kernel
theorem uxW_25 : ux_pos 302 (.code (uxM 25).1 (uxM 25).2.1 1 (uxM 25).2.2.1) = true := by decide +kernel
theorem uxW_26 : ux_pos 306 (.code (uxM 26).1 (uxM 26).2.1 3 (uxM 26).2.2.1) = true := by decide +kernel
theorem uxW_27 : ux_pos 309 (.code (uxM 27).1 (uxM 27).2.1 2 (uxM 27).2.2.1) = true := by decide +kernel
theorem uxW_28 : ux_pos 313 (.code (uxM 28).1 (uxM 28).2.1 5 (uxM 28).2.2.1) = true := by decide +kernel
theorem uxW_29 : ux_pos 316 (.code (uxM 29).1 (uxM 29).2.1 1 (uxM 29).2.2.1) = true := by decide +kernel
theorem uxW_30 : ux_pos 320 (.code (uxM 30).1 (uxM 30).2.1 2 (uxM 30).2.2.1) = true := by decide +kernel
theorem uxW_31 : ux_pos 324 (.code (uxM 31).1 (uxM 31).2.1 8 (uxM 31).2.2.1) = true := by decide +kernel
theorem uxW_32 : ux_pos 328 (.code (uxM 32).1 (uxM 32).2.1 4 (uxM 32).2.2.1) = true := by decide +kernel
theorem uxW_33 : ux_pos 332 (.code (uxM 33).1 (uxM 33).2.1 4 (uxM 33).2.2.1) = true := by decide +kernel
theorem uxW_34 : ux_pos 336 (.code (uxM 34).1 (uxM 34).2.1 7 (uxM 34).2.2.1) = true := by decide +kernel
theorem uxW_35 : ux_pos 340 (.code (uxM 35).1 (uxM 35).2.1 1 (uxM 35).2.2.1) = true := by decide +kernel
theorem uxW_36 : ux_pos 344 (.code (uxM 36).1 (uxM 36).2.1 4 (uxM 36).2.2.1) = true := by decide +kernel
theorem uxW_37 : ux_pos 352 (.code (uxM 37).1 (uxM 37).2.1 5 (uxM 37).2.2.1) = true := by decide +kernel
theorem uxW_38 : ux_pos 356 (.code (uxM 38).1 (uxM 38).2.1 1 (uxM 38).2.2.1) = true := by decide +kernel
theorem uxW_39 : ux_pos 360 (.code (uxM 39).1 (uxM 39).2.1 5 (uxM 39).2.2.1) = true := by decide +kernel
theorem uxW_40 : ux_pos 365 (.code (uxM 40).1 (uxM 40).2.1 7 (uxM 40).2.2.1) = true := by decide +kernel
theorem uxW_41 : ux_pos 369 (.code (uxM 41).1 (uxM 41).2.1 2 (uxM 41).2.2.1) = true := by decide +kernel
theorem uxW_42 : ux_pos 372 (.code (uxM 42).1 (uxM 42).2.1 1 (uxM 42).2.2.1) = true := by decide +kernel
theorem uxW_43 : ux_pos 375 (.code (uxM 43).1 (uxM 43).2.1 1 (uxM 43).2.2.1) = true := by decide +kernel
theorem uxW_44 : ux_pos 379 (.code (uxM 44).1 (uxM 44).2.1 1 (uxM 44).2.2.1) = true := by decide +kernel
theorem uxW_45 : ux_pos 383 (.code (uxM 45).1 (uxM 45).2.1 1 (uxM 45).2.2.1) = true := by decide +kernel
theorem uxW_46 : ux_pos 387 (.code (uxM 46).1 (uxM 46).2.1 1 (uxM 46).2.2.1) = true := by decide +kernel
theorem uxW_47 : ux_pos 390 (.codeWith (uxM 47).1 (uxM 47).2.1 6 (uxM 47).2.2.1 (uxM 47).2.2.2) = true := by decide +kernel
theorem uxW_48 : ux_pos 395 (.code (uxM 48).1 (uxM 48).2.1 5 (uxM 48).2.2.1) = true := by decide +kernel
theorem uxW_49 : ux_pos 398 (.code (uxM 49).1 (uxM 49).2.1 1 (uxM 49).2.2.1) = true := by decide +kernel
theorem uxW_50 : ux_pos 465 (.code (uxM 50).1 (uxM 50).2.1 5 (uxM 50).2.2.1) = true := by decide +kernel
theorem uxW_51 : ux_pos 468 (.codeWith (uxM 51).1 (uxM 51).2.1 3 (uxM 51).2.2.1 (uxM 51).2.2.2) = true := by decide +kernel
theorem uxW_52 : ux_pos 472 (.code (uxM 52).1 (uxM 52).2.1 2 (uxM 52).2.2.1) = true := by decide +kernel
theorem uxW_53 : ux_pos 475 (.codeWith (uxM 53).1 (uxM 53).2.1 5 (uxM 53).2.2.1 (uxM 53).2.2.2) = true := by decide +kernel
theorem uxW_54 : ux_pos 480 (.code (uxM 54).1 (uxM 54).2.1 3 (uxM 54).2.2.1) = true := by decide +kernel
theorem uxW_55 : ux_pos 499 (.code (uxM 55).1 (uxM 55).2.1 2 (uxM 55).2.2.1) = true := by decide +kernel
theorem uxW_56 : ux_pos 502 (.codeWith (uxM 56).1 (uxM 56).2.1 5 (uxM 56).2.2.1 (uxM 56).2.2.2) = true := by decide +kernel
theorem uxW_57 : ux_pos 507 (.code (uxM 57).1 (uxM 57).2.1 4 (uxM 57).2.2.1) = true := by decide +kernel
theorem uxW_58 : ux_pos 526 (.codeWith (uxM 58).1 (uxM 58).2.1 4 (uxM 58).2.2.1 (uxM 58).2.2.2) = true := by decide +kernel
theorem uxW_59 : ux_pos 530 (.code (uxM 59).1 (uxM 59).2.1 3 (uxM 59).2.2.1) = true := by decide +kernel
theorem uxW_60 : ux_pos 533 (.codeWith (uxM 60).1 (uxM 60).2.1 4 (uxM 60).2.2.1 (uxM 60).2.2.2) = true := by decide +kernel
theorem uxW_61 : ux_pos 537 (.code (uxM 61).1 (uxM 61).2.1 2 (uxM 61).2.2.1) = true := by decide +kernel
theorem uxW_62 : ux_pos 540 (.codeWith (uxM 62).1 (uxM 62).2.1 5 (uxM 62).2.2.1 (uxM 62).2.2.2) = true := by decide +kernel
theorem uxW_63 : ux_pos 544 (.code (uxM 63).1 (uxM 63).2.1 3 (uxM 63).2.2.1) = true := by decide +kernel
theorem uxW_64 : ux_pos 547 (.codeWith (uxM 64).1 (uxM 64).2.1 4 (uxM 64).2.2.1 (uxM 64).2.2.2) = true := by decide +kernel
theorem uxW_65 : ux_pos 551 (.code (uxM 65).1 (uxM 65).2.1 2 (uxM 65).2.2.1) = true := by decide +kernel
theorem uxW_66 : ux_pos 555 (.codeWith (uxM 66).1 (uxM 66).2.1 8 (uxM 66).2.2.1 (uxM 66).2.2.2) = true := by decide +kernel
theorem uxW_67 : ux_pos 559 (.code (uxM 67).1 (uxM 67).2.1 6 (uxM 67).2.2.1) = true := by decide +kernel
theorem uxW_68 : ux_pos 563 (.code (uxM 68).1 (uxM 68).2.1 7 (uxM 68).2.2.1) = true := by decide +kernel
theorem uxW_69 : ux_pos 567 (.code (uxM 69).1 (uxM 69).2.1 4 (uxM 69).2.2.1) = true := by decide +kernel
theorem uxW_70 : ux_pos 575 (.code (uxM 70).1 (uxM 70).2.1 4 (uxM 70).2.2.1) = true := by decide +kernel
theorem uxW_71 : ux_pos 579 (.code (uxM 71).1 (uxM 71).2.1 4 (uxM 71).2.2.1) = true := by decide +kernel
theorem uxW_72 : ux_pos 583 (.code (uxM 72).1 (uxM 72).2.1 2 (uxM 72).2.2.1) = true := by decide +kernel
theorem uxW_73 : ux_pos 588 (.code (uxM 73).1 (uxM 73).2.1 2 (uxM 73).2.2.1) = true := by decide +kernel
theorem uxW_74 : ux_pos 592 (.code (uxM 74).1 (uxM 74).2.1 3 (uxM 74).2.2.1) = true := by decide +kernel
theorem uxW_75 : ux_pos 596 (.code (uxM 75).1 (uxM 75).2.1 1 (uxM 75).2.2.1) = true := by decide +kernel
theorem uxW_76 : ux_pos 600 (.code (uxM 76).1 (uxM 76).2.1 3 (uxM 76).2.2.1) = true := by decide +kernel
theorem uxW_77 : ux_pos 604 (.code (uxM 77).1 (uxM 77).2.1 2 (uxM 77).2.2.1) = true := by decide +kernel
theorem uxW_78 : ux_pos 609 (.code (uxM 78).1 (uxM 78).2.1 4 (uxM 78).2.2.1) = true := by decide +kernel
theorem uxW_79 : ux_pos 614 (.code (uxM 79).1 (uxM 79).2.1 2 (uxM 79).2.2.1) = true := by decide +kernel
theorem uxW_80 : ux_pos 729 (.code (uxM 80).1 (uxM 80).2.1 1 (uxM 80).2.2.1) = true := by decide +kernel
theorem uxW_81 : ux_pos 733 (.code (uxM 81).1 (uxM 81).2.1 5 (uxM 81).2.2.1) = true := by decide +kernel
theorem uxW_82 : ux_pos 736 (.code (uxM 82).1 (uxM 82).2.1 2 (uxM 82).2.2.1) = true := by decide +kernel
theorem uxW_83 : ux_pos 740 (.code (uxM 83).1 (uxM 83).2.1 3 (uxM 83).2.2.1) = true := by decide +kernel
theorem uxW_84 : ux_pos 744 (.code (uxM 84).1 (uxM 84).2.1 2 (uxM 84).2.2.1) = true := by decide +kernel
theorem uxW_85 : ux_pos 748 (.code (uxM 85).1 (uxM 85).2.1 3 (uxM 85).2.2.1) = true := by decide +kernel
theorem uxW_86 : ux_pos 752 (.code (uxM 86).1 (uxM 86).2.1 4 (uxM 86).2.2.1) = true := by decide +kernel
theorem uxW_87 : ux_pos 756 (.code (uxM 87).1 (uxM 87).2.1 3 (uxM 87).2.2.1) = true := by decide +kernel
theorem uxW_88 : ux_pos 760 (.code (uxM 88).1 (uxM 88).2.1 3 (uxM 88).2.2.1) = true := by decide +kernel
theorem uxW_89 : ux_pos 764 (.code (uxM 89).1 (uxM 89).2.1 3 (uxM 89).2.2.1) = true := by decide +kernel
theorem uxW_90 : ux_pos 768 (.code (uxM 90).1 (uxM 90).2.1 3 (uxM 90).2.2.1) = true := by decide +kernel
theorem uxW_91 : ux_pos 772 (.code (uxM 91).1 (uxM 91).2.1 6 (uxM 91).2.2.1) = true := by decide +kernel
theorem uxW_92 : ux_pos 776 (.code (uxM 92).1 (uxM 92).2.1 7 (uxM 92).2.2.1) = true := by decide +kernel
theorem uxW_93 : ux_pos 780 (.code (uxM 93).1 (uxM 93).2.1 3 (uxM 93).2.2.1) = true := by decide +kernel
theorem uxW_94 : ux_pos 784 (.code (uxM 94).1 (uxM 94).2.1 5 (uxM 94).2.2.1) = true := by decide +kernel
theorem uxW_95 : ux_pos 788 (.code (uxM 95).1 (uxM 95).2.1 2 (uxM 95).2.2.1) = true := by decide +kernel
theorem uxW_96 : ux_pos 792 (.code (uxM 96).1 (uxM 96).2.1 2 (uxM 96).2.2.1) = true := by decide +kernel
theorem uxW_97 : ux_pos 796 (.code (uxM 97).1 (uxM 97).2.1 3 (uxM 97).2.2.1) = true := by decide +kernel
theorem uxW_98 : ux_pos 799 (.code (uxM 98).1 (uxM 98).2.1 1 (uxM 98).2.2.1) = true := by decide +kernel
theorem uxW_99 : ux_pos 803 (.code (uxM 99).1 (uxM 99).2.1 3 (uxM 99).2.2.1) = true := by decide +kernel
theorem uxW_100 : ux_pos 806 (.code (uxM 100).1 (uxM 100).2.1 1 (uxM 100).2.2.1) = true := by decide +kernel
theorem uxW_101 : ux_pos 810 (.code (uxM 101).1 (uxM 101).2.1 2 (uxM 101).2.2.1) = true := by decide +kernel
theorem uxW_102 : ux_pos 814 (.code (uxM 102).1 (uxM 102).2.1 4 (uxM 102).2.2.1) = true := by decide +kernel
theorem uxW_103 : ux_pos 818 (.code (uxM 103).1 (uxM 103).2.1 6 (uxM 103).2.2.1) = true := by decide +kernel
theorem uxW_104 : ux_pos 821 (.code (uxM 104).1 (uxM 104).2.1 1 (uxM 104).2.2.1) = true := by decide +kernel
theorem uxW_105 : ux_pos 825 (.code (uxM 105).1 (uxM 105).2.1 4 (uxM 105).2.2.1) = true := by decide +kernel
theorem uxW_106 : ux_pos 829 (.code (uxM 106).1 (uxM 106).2.1 4 (uxM 106).2.2.1) = true := by decide +kernel
theorem uxW_107 : ux_pos 833 (.code (uxM 107).1 (uxM 107).2.1 5 (uxM 107).2.2.1) = true := by decide +kernel
theorem uxW_108 : ux_pos 837 (.code (uxM 108).1 (uxM 108).2.1 6 (uxM 108).2.2.1) = true := by decide +kernel
theorem uxW_109 : ux_pos 840 (.code (uxM 109).1 (uxM 109).2.1 1 (uxM 109).2.2.1) = true := by decide +kernel
theorem uxW_110 : ux_pos 844 (.code (uxM 110).1 (uxM 110).2.1 2 (uxM 110).2.2.1) = true := by decide +kernel
theorem uxW_111 : ux_pos 848 (.code (uxM 111).1 (uxM 111).2.1 5 (uxM 111).2.2.1) = true := by decide +kernel
theorem uxW_112 : ux_pos 852 (.code (uxM 112).1 (uxM 112).2.1 1 (uxM 112).2.2.1) = true := by decide +kernel
theorem uxW_113 : ux_pos 856 (.code (uxM 113).1 (uxM 113).2.1 2 (uxM 113).2.2.1) = true := by decide +kernel
theorem uxW_114 : ux_pos 860 (.code (uxM 114).1 (uxM 114).2.1 12 (uxM 114).2.2.1) = true := by decide +kernel
theorem uxW_115 : ux_pos 863 (.code (uxM 115).1 (uxM 115).2.1 3 (uxM 115).2.2.1) = true := by decide +kernel
theorem uxW_116 : ux_pos 867 (.code (uxM 116).1 (uxM 116).2.1 3 (uxM 116).2.2.1) = true := by decide +kernel
theorem uxW_117 : ux_pos 871 (.code (uxM 117).1 (uxM 117).2.1 1 (uxM 117).2.2.1) = true := by decide +kernel
theorem uxW_118 : ux_pos 875 (.code (uxM 118).1 (uxM 118).2.1 1 (uxM 118).2.2.1) = true := by decide +kernel
theorem uxWall : ∀ j, 0 < j → j < 119 → ((uxM j).2.2.2 = [] ∧ Cond.code (uxM j).1 (uxM j).2.1 (uxP.2.2.2.2.2.2 j).1 (uxM j).2.2.1 ∈ uxTw) ∨ ((uxM j).2.2.2 ≠ [] ∧ Cond.codeWith (uxM j).1 (uxM j).2.1 (uxP.2.2.2.2.2.2 j).1 (uxM j).2.2.1 (uxM j).2.2.2 ∈ uxTw) := by
  intro j h0 h1
  match j, h0, h1 with
  | 1, _, _ => exact Or.inl ⟨rfl, ux_pos_mem uxW_1⟩
  | 2, _, _ => exact Or.inl ⟨rfl, ux_pos_mem uxW_2⟩
  | 3, _, _ => exact Or.inl ⟨rfl, ux_pos_mem uxW_3⟩
  | 4, _, _ => exact Or.inl ⟨rfl, ux_pos_mem uxW_4⟩
  | 5, _, _ => exact Or.inl ⟨rfl, ux_pos_mem uxW_5⟩
  | 6, _, _ => exact Or.inl ⟨rfl, ux_pos_mem uxW_6⟩
  | 7, _, _ => exact Or.inl ⟨rfl, ux_pos_mem uxW_7⟩
  | 8, _, _ => exact Or.inl ⟨rfl, ux_pos_mem uxW_8⟩
  | 9, _, _ => exact Or.inl ⟨rfl, ux_pos_mem uxW_9⟩
  | 10, _, _ => exact Or.inl ⟨rfl, ux_pos_mem uxW_10⟩
  | 11, _, _ => exact Or.inl ⟨rfl, ux_pos_mem uxW_11⟩
  | 12, _, _ => exact Or.inl ⟨rfl, ux_pos_mem uxW_12⟩
  | 13, _, _ => exact Or.inl ⟨rfl, ux_pos_mem uxW_13⟩
  | 14, _, _ => exact Or.inl ⟨rfl, ux_pos_mem uxW_14⟩
  | 15, _, _ => exact Or.inl ⟨rfl, ux_pos_mem uxW_15⟩
  | 16, _, _ => exact Or.inl ⟨rfl, ux_pos_mem uxW_16⟩
  | 17, _, _ => exact Or.inl ⟨rfl, ux_pos_mem uxW_17⟩
  | 18, _, _ => exact Or.inl ⟨rfl, ux_pos_mem uxW_18⟩
  | 19, _, _ => exact Or.inl ⟨rfl, ux_pos_mem uxW_19⟩
  | 20, _, _ => exact Or.inl ⟨rfl, ux_pos_mem uxW_20⟩
  | 21, _, _ => exact Or.inl ⟨rfl, ux_pos_mem uxW_21⟩
  | 22, _, _ => exact Or.inl ⟨rfl, ux_pos_mem uxW_22⟩
  | 23, _, _ => exact Or.inl ⟨rfl, ux_pos_mem uxW_23⟩
  | 24, _, _ => exact Or.inl ⟨rfl, ux_pos_mem uxW_24⟩
  | 25, _, _ => exact Or.inl ⟨rfl, ux_pos_mem uxW_25⟩
  | 26, _, _ => exact Or.inl ⟨rfl, ux_pos_mem uxW_26⟩
  | 27, _, _ => exact Or.inl ⟨rfl, ux_pos_mem uxW_27⟩
  | 28, _, _ => exact Or.inl ⟨rfl, ux_pos_mem uxW_28⟩
  | 29, _, _ => exact Or.inl ⟨rfl, ux_pos_mem uxW_29⟩
  | 30, _, _ => exact Or.inl ⟨rfl, ux_pos_mem uxW_30⟩
  | 31, _, _ => exact Or.inl ⟨rfl, ux_pos_mem uxW_31⟩
  | 32, _, _ => exact Or.inl ⟨rfl, ux_pos_mem uxW_32⟩
  | 33, _, _ => exact Or.inl ⟨rfl, ux_pos_mem uxW_33⟩
  | 34, _, _ => exact Or.inl ⟨rfl, ux_pos_mem uxW_34⟩
  | 35, _, _ => exact Or.inl ⟨rfl, ux_pos_mem uxW_35⟩
  | 36, _, _ => exact Or.inl ⟨rfl, ux_pos_mem uxW_36⟩
  | 37, _, _ => exact Or.inl ⟨rfl, ux_pos_mem uxW_37⟩
  | 38, _, _ => exact Or.inl ⟨rfl, ux_pos_mem uxW_38⟩
  | 39, _, _ => exact Or.inl ⟨rfl, ux_pos_mem uxW_39⟩
  | 40, _, _ => exact Or.inl ⟨rfl, ux_pos_mem uxW_40⟩
  | 41, _, _ => exact Or.inl ⟨rfl, ux_pos_mem uxW_41⟩
  | 42, _, _ => exact Or.inl ⟨rfl, ux_pos_mem uxW_42⟩
  | 43, _, _ => exact Or.inl ⟨rfl, ux_pos_mem uxW_43⟩
  | 44, _, _ => exact Or.inl ⟨rfl, ux_pos_mem uxW_44⟩
  | 45, _, _ => exact Or.inl ⟨rfl, ux_pos_mem uxW_45⟩
  | 46, _, _ => exact Or.inl ⟨rfl, ux_pos_mem uxW_46⟩
  | 47, _, _ => exact Or.inr ⟨by decide +kernel, ux_pos_mem uxW_47⟩
  | 48, _, _ => exact Or.inl ⟨rfl, ux_pos_mem uxW_48⟩
  | 49, _, _ => exact Or.inl ⟨rfl, ux_pos_mem uxW_49⟩
  | 50, _, _ => exact Or.inl ⟨rfl, ux_pos_mem uxW_50⟩
  | 51, _, _ => exact Or.inr ⟨by decide +kernel, ux_pos_mem uxW_51⟩
  | 52, _, _ => exact Or.inl ⟨rfl, ux_pos_mem uxW_52⟩
  | 53, _, _ => exact Or.inr ⟨by decide +kernel, ux_pos_mem uxW_53⟩
  | 54, _, _ => exact Or.inl ⟨rfl, ux_pos_mem uxW_54⟩
  | 55, _, _ => exact Or.inl ⟨rfl, ux_pos_mem uxW_55⟩
  | 56, _, _ => exact Or.inr ⟨by decide +kernel, ux_pos_mem uxW_56⟩
  | 57, _, _ => exact Or.inl ⟨rfl, ux_pos_mem uxW_57⟩
  | 58, _, _ => exact Or.inr ⟨by decide +kernel, ux_pos_mem uxW_58⟩
  | 59, _, _ => exact Or.inl ⟨rfl, ux_pos_mem uxW_59⟩
  | 60, _, _ => exact Or.inr ⟨by decide +kernel, ux_pos_mem uxW_60⟩
  | 61, _, _ => exact Or.inl ⟨rfl, ux_pos_mem uxW_61⟩
  | 62, _, _ => exact Or.inr ⟨by decide +kernel, ux_pos_mem uxW_62⟩
  | 63, _, _ => exact Or.inl ⟨rfl, ux_pos_mem uxW_63⟩
  | 64, _, _ => exact Or.inr ⟨by decide +kernel, ux_pos_mem uxW_64⟩
  | 65, _, _ => exact Or.inl ⟨rfl, ux_pos_mem uxW_65⟩
  | 66, _, _ => exact Or.inr ⟨by decide +kernel, ux_pos_mem uxW_66⟩
  | 67, _, _ => exact Or.inl ⟨rfl, ux_pos_mem uxW_67⟩
  | 68, _, _ => exact Or.inl ⟨rfl, ux_pos_mem uxW_68⟩
  | 69, _, _ => exact Or.inl ⟨rfl, ux_pos_mem uxW_69⟩
  | 70, _, _ => exact Or.inl ⟨rfl, ux_pos_mem uxW_70⟩
  | 71, _, _ => exact Or.inl ⟨rfl, ux_pos_mem uxW_71⟩
  | 72, _, _ => exact Or.inl ⟨rfl, ux_pos_mem uxW_72⟩
  | 73, _, _ => exact Or.inl ⟨rfl, ux_pos_mem uxW_73⟩
  | 74, _, _ => exact Or.inl ⟨rfl, ux_pos_mem uxW_74⟩
  | 75, _, _ => exact Or.inl ⟨rfl, ux_pos_mem uxW_75⟩
  | 76, _, _ => exact Or.inl ⟨rfl, ux_pos_mem uxW_76⟩
  | 77, _, _ => exact Or.inl ⟨rfl, ux_pos_mem uxW_77⟩
  | 78, _, _ => exact Or.inl ⟨rfl, ux_pos_mem uxW_78⟩
  | 79, _, _ => exact Or.inl ⟨rfl, ux_pos_mem uxW_79⟩
  | 80, _, _ => exact Or.inl ⟨rfl, ux_pos_mem uxW_80⟩
  | 81, _, _ => exact Or.inl ⟨rfl, ux_pos_mem uxW_81⟩
  | 82, _, _ => exact Or.inl ⟨rfl, ux_pos_mem uxW_82⟩
  | 83, _, _ => exact Or.inl ⟨rfl, ux_pos_mem uxW_83⟩
  | 84, _, _ => exact Or.inl ⟨rfl, ux_pos_mem uxW_84⟩
  | 85, _, _ => exact Or.inl ⟨rfl, ux_pos_mem uxW_85⟩
  | 86, _, _ => exact Or.inl ⟨rfl, ux_pos_mem uxW_86⟩
  | 87, _, _ => exact Or.inl ⟨rfl, ux_pos_mem uxW_87⟩
  | 88, _, _ => exact Or.inl ⟨rfl, ux_pos_mem uxW_88⟩
  | 89, _, _ => exact Or.inl ⟨rfl, ux_pos_mem uxW_89⟩
  | 90, _, _ => exact Or.inl ⟨rfl, ux_pos_mem uxW_90⟩
  | 91, _, _ => exact Or.inl ⟨rfl, ux_pos_mem uxW_91⟩
  | 92, _, _ => exact Or.inl ⟨rfl, ux_pos_mem uxW_92⟩
  | 93, _, _ => exact Or.inl ⟨rfl, ux_pos_mem uxW_93⟩
  | 94, _, _ => exact Or.inl ⟨rfl, ux_pos_mem uxW_94⟩
  | 95, _, _ => exact Or.inl ⟨rfl, ux_pos_mem uxW_95⟩
  | 96, _, _ => exact Or.inl ⟨rfl, ux_pos_mem uxW_96⟩
  | 97, _, _ => exact Or.inl ⟨rfl, ux_pos_mem uxW_97⟩
  | 98, _, _ => exact Or.inl ⟨rfl, ux_pos_mem uxW_98⟩
  | 99, _, _ => exact Or.inl ⟨rfl, ux_pos_mem uxW_99⟩
  | 100, _, _ => exact Or.inl ⟨rfl, ux_pos_mem uxW_100⟩
  | 101, _, _ => exact Or.inl ⟨rfl, ux_pos_mem uxW_101⟩
  | 102, _, _ => exact Or.inl ⟨rfl, ux_pos_mem uxW_102⟩
  | 103, _, _ => exact Or.inl ⟨rfl, ux_pos_mem uxW_103⟩
  | 104, _, _ => exact Or.inl ⟨rfl, ux_pos_mem uxW_104⟩
  | 105, _, _ => exact Or.inl ⟨rfl, ux_pos_mem uxW_105⟩
  | 106, _, _ => exact Or.inl ⟨rfl, ux_pos_mem uxW_106⟩
  | 107, _, _ => exact Or.inl ⟨rfl, ux_pos_mem uxW_107⟩
  | 108, _, _ => exact Or.inl ⟨rfl, ux_pos_mem uxW_108⟩
  | 109, _, _ => exact Or.inl ⟨rfl, ux_pos_mem uxW_109⟩
  | 110, _, _ => exact Or.inl ⟨rfl, ux_pos_mem uxW_110⟩
  | 111, _, _ => exact Or.inl ⟨rfl, ux_pos_mem uxW_111⟩
  | 112, _, _ => exact Or.inl ⟨rfl, ux_pos_mem uxW_112⟩
  | 113, _, _ => exact Or.inl ⟨rfl, ux_pos_mem uxW_113⟩
  | 114, _, _ => exact Or.inl ⟨rfl, ux_pos_mem uxW_114⟩
  | 115, _, _ => exact Or.inl ⟨rfl, ux_pos_mem uxW_115⟩
  | 116, _, _ => exact Or.inl ⟨rfl, ux_pos_mem uxW_116⟩
  | 117, _, _ => exact Or.inl ⟨rfl, ux_pos_mem uxW_117⟩
  | 118, _, _ => exact Or.inl ⟨rfl, ux_pos_mem uxW_118⟩
  | n + 119, _, h => omega

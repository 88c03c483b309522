/-! words of the tables, by their places -/
theorem kd_20 : zKd 20 14 8 := ⟨by decide, by decide, rfl, rfl, by decide⟩
theorem kd_21 : zKd 21 0 16 := ⟨by decide, by decide, rfl, rfl, by decide⟩
theorem kd_22 : zKd 22 0 16 := ⟨by decide, by decide, rfl, rfl, by decide⟩
theorem kd_23 : zKd 23 0 16 := ⟨by decide, by decide, rfl, rfl, by decide⟩
theorem kd_24 : zKd 24 0 16 := ⟨by decide, by decide, rfl, rfl, by decide⟩
theorem kd_25 : zKd 25 0 16 := ⟨by decide, by decide, rfl, rfl, by decide⟩
theorem kd_26 : zKd 26 0 16 := ⟨by decide, by decide, rfl, rfl, by decide⟩
theorem kd_27 : zKd 27 16 60 := ⟨by decide, by decide, rfl, rfl, by decide⟩
theorem kd_28 : zKd 28 0 60 := ⟨by decide, by decide, rfl, rfl, by decide⟩
theorem kd_29 : zKd 29 0 60 := ⟨by decide, by decide, rfl, rfl, by decide⟩
theorem kd_30 : zKd 30 1 8 := ⟨by decide, by decide, rfl, rfl, by decide⟩
theorem kd_31 : zKd 31 0 60 := ⟨by decide, by decide, rfl, rfl, by decide⟩
theorem kd_32 : zKd 32 0 60 := ⟨by decide, by decide, rfl, rfl, by decide⟩
theorem kd_33 : zKd 33 0 60 := ⟨by decide, by decide, rfl, rfl, by decide⟩
theorem kd_34 : zKd 34 0 10 := ⟨by decide, by decide, rfl, rfl, by decide⟩
theorem kd_35 : zKd 35 0 10 := ⟨by decide, by decide, rfl, rfl, by decide⟩
theorem kd_36 : zKd 36 0 30 := ⟨by decide, by decide, rfl, rfl, by decide⟩
theorem kd_37 : zKd 37 0 30 := ⟨by decide, by decide, rfl, rfl, by decide⟩
theorem kd_38 : zKd 38 0 30 := ⟨by decide, by decide, rfl, rfl, by decide⟩
theorem kd_39 : zKd 39 11 11 := ⟨by decide, by decide, rfl, rfl, by decide⟩
theorem kd_40 : zKd 40 10 91 := ⟨by decide, by decide, rfl, rfl, by decide⟩
theorem kd_41 : zKd 41 19 91 := ⟨by decide, by decide, rfl, rfl, by decide⟩
theorem kd_42 : zKd 42 14 160 := ⟨by decide, by decide, rfl, rfl, by decide⟩
theorem kd_43 : zKd 43 0 40 := ⟨by decide, by decide, rfl, rfl, by decide⟩
theorem kd_44 : zKd 44 0 40 := ⟨by decide, by decide, rfl, rfl, by decide⟩
theorem kd_45 : zKd 45 0 40 := ⟨by decide, by decide, rfl, rfl, by decide⟩
theorem kd_46 : zKd 46 0 40 := ⟨by decide, by decide, rfl, rfl, by decide⟩
theorem kd_47 : zKd 47 0 8 := ⟨by decide, by decide, rfl, rfl, by decide⟩
theorem kd_48 : zKd 48 0 8 := ⟨by decide, by decide, rfl, rfl, by decide⟩
theorem kd_49 : zKd 49 20 12 := ⟨by decide, by decide, rfl, rfl, by decide⟩
theorem kd_50 : zKd 50 0 60 := ⟨by decide, by decide, rfl, rfl, by decide⟩
theorem kd_51 : zKd 51 0 60 := ⟨by decide, by decide, rfl, rfl, by decide⟩
theorem kd_52 : zKd 52 0 60 := ⟨by decide, by decide, rfl, rfl, by decide⟩
theorem kd_53 : zKd 53 0 60 := ⟨by decide, by decide, rfl, rfl, by decide⟩
theorem kd_54 : zKd 54 0 30 := ⟨by decide, by decide, rfl, rfl, by decide⟩
theorem kd_55 : zKd 55 0 30 := ⟨by decide, by decide, rfl, rfl, by decide⟩
theorem kd_56 : zKd 56 0 30 := ⟨by decide, by decide, rfl, rfl, by decide⟩
theorem kd_57 : zKd 57 0 30 := ⟨by decide, by decide, rfl, rfl, by decide⟩
theorem kd_58 : zKd 58 1 8 := ⟨by decide, by decide, rfl, rfl, by decide⟩
theorem kd_59 : zKd 59 0 60 := ⟨by decide, by decide, rfl, rfl, by decide⟩
theorem kd_60 : zKd 60 0 60 := ⟨by decide, by decide, rfl, rfl, by decide⟩
theorem kd_61 : zKd 61 0 60 := ⟨by decide, by decide, rfl, rfl, by decide⟩
theorem kd_62 : zKd 62 0 12 := ⟨by decide, by decide, rfl, rfl, by decide⟩
theorem kd_63 : zKd 63 0 480 := ⟨by decide, by decide, rfl, rfl, by decide⟩
theorem kd_64 : zKd 64 0 480 := ⟨by decide, by decide, rfl, rfl, by decide⟩
theorem kd_65 : zKd 65 0 480 := ⟨by decide, by decide, rfl, rfl, by decide⟩
theorem kd_66 : zKd 66 0 50 := ⟨by decide, by decide, rfl, rfl, by decide⟩
theorem kd_67 : zKd 67 2 50 := ⟨by decide, by decide, rfl, rfl, by decide⟩
theorem kd_68 : zKd 68 0 150 := ⟨by decide, by decide, rfl, rfl, by decide⟩
theorem kd_69 : zKd 69 0 150 := ⟨by decide, by decide, rfl, rfl, by decide⟩
theorem kd_70 : zKd 70 0 150 := ⟨by decide, by decide, rfl, rfl, by decide⟩
theorem kd_71 : zKd 71 0 150 := ⟨by decide, by decide, rfl, rfl, by decide⟩
theorem kd_72 : zKd 72 0 150 := ⟨by decide, by decide, rfl, rfl, by decide⟩
theorem kd_73 : zKd 73 0 150 := ⟨by decide, by decide, rfl, rfl, by decide⟩
theorem kd_74 : zKd 74 0 88 := ⟨by decide, by decide, rfl, rfl, by decide⟩
theorem kd_75 : zKd 75 0 180 := ⟨by decide, by decide, rfl, rfl, by decide⟩
theorem kd_76 : zKd 76 0 180 := ⟨by decide, by decide, rfl, rfl, by decide⟩
theorem kd_77 : zKd 77 0 180 := ⟨by decide, by decide, rfl, rfl, by decide⟩
theorem kd_78 : zKd 78 0 180 := ⟨by decide, by decide, rfl, rfl, by decide⟩
theorem kd_79 : zKd 79 0 180 := ⟨by decide, by decide, rfl, rfl, by decide⟩
theorem kd_80 : zKd 80 2 180 := ⟨by decide, by decide, rfl, rfl, by decide⟩
theorem kd_81 : zKd 81 0 180 := ⟨by decide, by decide, rfl, rfl, by decide⟩
theorem kd_82 : zKd 82 0 3600 := ⟨by decide, by decide, rfl, rfl, by decide⟩
theorem kd_83 : zKd 83 0 16 := ⟨by decide, by decide, rfl, rfl, by decide⟩
theorem kd_84 : zKd 84 0 16 := ⟨by decide, by decide, rfl, rfl, by decide⟩
theorem kd_85 : zKd 85 0 16 := ⟨by decide, by decide, rfl, rfl, by decide⟩
theorem kd_86 : zKd 86 0 16 := ⟨by decide, by decide, rfl, rfl, by decide⟩
theorem kd_87 : zKd 87 0 16 := ⟨by decide, by decide, rfl, rfl, by decide⟩
theorem kd_88 : zKd 88 0 16 := ⟨by decide, by decide, rfl, rfl, by decide⟩
theorem kd_89 : zKd 89 0 60 := ⟨by decide, by decide, rfl, rfl, by decide⟩
theorem kd_90 : zKd 90 0 60 := ⟨by decide, by decide, rfl, rfl, by decide⟩
theorem kd_91 : zKd 91 0 60 := ⟨by decide, by decide, rfl, rfl, by decide⟩
theorem kd_92 : zKd 92 0 1200 := ⟨by decide, by decide, rfl, rfl, by decide⟩
theorem fl_X0_15 : zFL RX0 15 0 1 := ⟨by decide, by decide, Or.inl (zTbl_i 295 (by decide +kernel) (by decide +kernel))⟩
theorem fl_X0_18 : zFL RX0 18 0 2 := ⟨by decide, by decide, Or.inl (zTbl_i 297 (by decide +kernel) (by decide +kernel))⟩
theorem fl_X0_21 : zFL RX0 21 0 3 := ⟨by decide, by decide, Or.inl (zTbl_i 299 (by decide +kernel) (by decide +kernel))⟩
theorem fl_X0_24 : zFL RX0 24 0 4 := ⟨by decide, by decide, Or.inl (zTbl_i 301 (by decide +kernel) (by decide +kernel))⟩
theorem fl_X0_29 : zFL RX0 29 0 5 := ⟨by decide, by decide, Or.inl (zTbl_i 303 (by decide +kernel) (by decide +kernel))⟩
theorem fl_X0_32 : zFL RX0 32 0 6 := ⟨by decide, by decide, Or.inl (zTbl_i 305 (by decide +kernel) (by decide +kernel))⟩
theorem fl_X0_9 : zFL RX0 9 0 0 := ⟨by decide, by decide, Or.inl (zTbl_i 293 (by decide +kernel) (by decide +kernel))⟩
theorem fl_X10_15 : zFL RX10 15 10 1 := ⟨by decide, by decide, Or.inl (zTbl_i 236 (by decide +kernel) (by decide +kernel))⟩
theorem fl_X10_18 : zFL RX10 18 10 2 := ⟨by decide, by decide, Or.inl (zTbl_i 237 (by decide +kernel) (by decide +kernel))⟩
theorem fl_X10_21 : zFL RX10 21 10 3 := ⟨by decide, by decide, Or.inl (zTbl_i 238 (by decide +kernel) (by decide +kernel))⟩
theorem fl_X10_24 : zFL RX10 24 10 7 := ⟨by decide, by decide, Or.inl (zTbl_i 242 (by decide +kernel) (by decide +kernel))⟩
theorem fl_X10_27 : zFL RX10 27 10 8 := ⟨by decide, by decide, Or.inl (zTbl_i 243 (by decide +kernel) (by decide +kernel))⟩
theorem fl_X10_30 : zFL RX10 30 10 4 := ⟨by decide, by decide, Or.inl (zTbl_i 239 (by decide +kernel) (by decide +kernel))⟩
theorem fl_X10_38 : zFL RX10 38 10 5 := ⟨by decide, by decide, Or.inl (zTbl_i 240 (by decide +kernel) (by decide +kernel))⟩
theorem fl_X10_45 : zFL RX10 45 10 6 := ⟨by decide, by decide, Or.inl (zTbl_i 241 (by decide +kernel) (by decide +kernel))⟩
theorem fl_X10_52 : zFL RX10 52 10 9 := ⟨by decide, by decide, Or.inl (zTbl_i 244 (by decide +kernel) (by decide +kernel))⟩
theorem fl_X10_9 : zFL RX10 9 10 0 := ⟨by decide, by decide, Or.inl (zTbl_i 235 (by decide +kernel) (by decide +kernel))⟩
theorem fl_X11_104 : zFL RX11 104 3 5 := ⟨by decide, by decide, Or.inr ⟨"HireScopes", List.mem_of_getElem? (i := 156) (by decide +kernel)⟩⟩
theorem fl_X11_110 : zFL RX11 110 6 0 := ⟨by decide, by decide, Or.inl (zTbl_i 464 (by decide +kernel) (by decide +kernel))⟩
theorem fl_X11_113 : zFL RX11 113 6 4 := ⟨by decide, by decide, Or.inl (zTbl_i 474 (by decide +kernel) (by decide +kernel))⟩
theorem fl_X11_116 : zFL RX11 116 6 7 := ⟨by decide, by decide, Or.inl (zTbl_i 481 (by decide +kernel) (by decide +kernel))⟩
theorem fl_X11_119 : zFL RX11 119 6 5 := ⟨by decide, by decide, Or.inl (zTbl_i 476 (by decide +kernel) (by decide +kernel))⟩
theorem fl_X11_123 : zFL RX11 123 6 6 := ⟨by decide, by decide, Or.inl (zTbl_i 478 (by decide +kernel) (by decide +kernel))⟩
theorem fl_X11_138 : zFL RX11 138 3 6 := ⟨by decide, by decide, Or.inr ⟨"HireScopes", List.mem_of_getElem? (i := 158) (by decide +kernel)⟩⟩
theorem fl_X11_14 : zFL RX11 14 11 0 := ⟨by decide, by decide, Or.inl (zTbl_i 431 (by decide +kernel) (by decide +kernel))⟩
theorem fl_X11_142 : zFL RX11 142 3 8 := ⟨by decide, by decide, Or.inr ⟨"HireScopes", List.mem_of_getElem? (i := 163) (by decide +kernel)⟩⟩
theorem fl_X11_18 : zFL RX11 18 11 1 := ⟨by decide, by decide, Or.inl (zTbl_i 432 (by decide +kernel) (by decide +kernel))⟩
theorem fl_X11_27 : zFL RX11 27 11 3 := ⟨by decide, by decide, Or.inl (zTbl_i 434 (by decide +kernel) (by decide +kernel))⟩
theorem fl_X11_44 : zFL RX11 44 6 3 := ⟨by decide, by decide, Or.inl (zTbl_i 470 (by decide +kernel) (by decide +kernel))⟩
theorem fl_X11_57 : zFL RX11 57 3 7 := ⟨by decide, by decide, Or.inr ⟨"HireScopes", List.mem_of_getElem? (i := 160) (by decide +kernel)⟩⟩
theorem fl_X11_67 : zFL RX11 67 7 3 := ⟨by decide, by decide, Or.inr ⟨"HireScopes", List.mem_of_getElem? (i := 116) (by decide +kernel)⟩⟩
theorem fl_X11_70 : zFL RX11 70 11 2 := ⟨by decide, by decide, Or.inl (zTbl_i 433 (by decide +kernel) (by decide +kernel))⟩
theorem fl_X11_95 : zFL RX11 95 8 10 := ⟨by decide, by decide, Or.inr ⟨"HireScopes", List.mem_of_getElem? (i := 386) (by decide +kernel)⟩⟩
theorem fl_X11_99 : zFL RX11 99 2 6 := ⟨by decide, by decide, Or.inr ⟨"HireScopes", List.mem_of_getElem? (i := 213) (by decide +kernel)⟩⟩
theorem fl_X12_102 : zFL RX12 102 12 40 := ⟨by decide, by decide, Or.inl (zTbl_i 982 (by decide +kernel) (by decide +kernel))⟩
theorem fl_X12_105 : zFL RX12 105 12 41 := ⟨by decide, by decide, Or.inl (zTbl_i 983 (by decide +kernel) (by decide +kernel))⟩
theorem fl_X12_108 : zFL RX12 108 12 42 := ⟨by decide, by decide, Or.inl (zTbl_i 984 (by decide +kernel) (by decide +kernel))⟩
theorem fl_X12_111 : zFL RX12 111 12 46 := ⟨by decide, by decide, Or.inl (zTbl_i 988 (by decide +kernel) (by decide +kernel))⟩
theorem fl_X12_114 : zFL RX12 114 12 47 := ⟨by decide, by decide, Or.inl (zTbl_i 989 (by decide +kernel) (by decide +kernel))⟩
theorem fl_X12_117 : zFL RX12 117 12 48 := ⟨by decide, by decide, Or.inl (zTbl_i 990 (by decide +kernel) (by decide +kernel))⟩
theorem fl_X12_120 : zFL RX12 120 12 49 := ⟨by decide, by decide, Or.inl (zTbl_i 991 (by decide +kernel) (by decide +kernel))⟩
theorem fl_X12_123 : zFL RX12 123 12 50 := ⟨by decide, by decide, Or.inl (zTbl_i 992 (by decide +kernel) (by decide +kernel))⟩
theorem fl_X12_126 : zFL RX12 126 12 51 := ⟨by decide, by decide, Or.inl (zTbl_i 993 (by decide +kernel) (by decide +kernel))⟩
theorem fl_X12_129 : zFL RX12 129 12 59 := ⟨by decide, by decide, Or.inl (zTbl_i 1001 (by decide +kernel) (by decide +kernel))⟩
theorem fl_X12_13 : zFL RX12 13 12 2 := ⟨by decide, by decide, Or.inl (zTbl_i 944 (by decide +kernel) (by decide +kernel))⟩
theorem fl_X12_133 : zFL RX12 133 12 63 := ⟨by decide, by decide, Or.inl (zTbl_i 1005 (by decide +kernel) (by decide +kernel))⟩
theorem fl_X12_136 : zFL RX12 136 12 64 := ⟨by decide, by decide, Or.inl (zTbl_i 1006 (by decide +kernel) (by decide +kernel))⟩
theorem fl_X12_139 : zFL RX12 139 12 65 := ⟨by decide, by decide, Or.inl (zTbl_i 1007 (by decide +kernel) (by decide +kernel))⟩
theorem fl_X12_142 : zFL RX12 142 12 66 := ⟨by decide, by decide, Or.inl (zTbl_i 1008 (by decide +kernel) (by decide +kernel))⟩
theorem fl_X12_153 : zFL RX12 153 12 0 := ⟨by decide, by decide, Or.inl (zTbl_i 942 (by decide +kernel) (by decide +kernel))⟩
theorem fl_X12_16 : zFL RX12 16 12 3 := ⟨by decide, by decide, Or.inl (zTbl_i 945 (by decide +kernel) (by decide +kernel))⟩
theorem fl_X12_162 : zFL RX12 162 12 4 := ⟨by decide, by decide, Or.inl (zTbl_i 946 (by decide +kernel) (by decide +kernel))⟩
theorem fl_X12_167 : zFL RX12 167 12 6 := ⟨by decide, by decide, Or.inl (zTbl_i 948 (by decide +kernel) (by decide +kernel))⟩
theorem fl_X12_174 : zFL RX12 174 12 12 := ⟨by decide, by decide, Or.inl (zTbl_i 954 (by decide +kernel) (by decide +kernel))⟩
theorem fl_X12_177 : zFL RX12 177 12 16 := ⟨by decide, by decide, Or.inl (zTbl_i 958 (by decide +kernel) (by decide +kernel))⟩
theorem fl_X12_19 : zFL RX12 19 12 5 := ⟨by decide, by decide, Or.inl (zTbl_i 947 (by decide +kernel) (by decide +kernel))⟩
theorem fl_X12_196 : zFL RX12 196 12 21 := ⟨by decide, by decide, Or.inl (zTbl_i 963 (by decide +kernel) (by decide +kernel))⟩
theorem fl_X12_199 : zFL RX12 199 12 22 := ⟨by decide, by decide, Or.inl (zTbl_i 964 (by decide +kernel) (by decide +kernel))⟩
theorem fl_X12_217 : zFL RX12 217 12 25 := ⟨by decide, by decide, Or.inl (zTbl_i 967 (by decide +kernel) (by decide +kernel))⟩
theorem fl_X12_22 : zFL RX12 22 12 7 := ⟨by decide, by decide, Or.inl (zTbl_i 949 (by decide +kernel) (by decide +kernel))⟩
theorem fl_X12_220 : zFL RX12 220 12 67 := ⟨by decide, by decide, Or.inl (zTbl_i 1009 (by decide +kernel) (by decide +kernel))⟩
theorem fl_X12_223 : zFL RX12 223 12 33 := ⟨by decide, by decide, Or.inl (zTbl_i 975 (by decide +kernel) (by decide +kernel))⟩
theorem fl_X12_236 : zFL RX12 236 12 44 := ⟨by decide, by decide, Or.inl (zTbl_i 986 (by decide +kernel) (by decide +kernel))⟩
theorem fl_X12_239 : zFL RX12 239 12 55 := ⟨by decide, by decide, Or.inl (zTbl_i 997 (by decide +kernel) (by decide +kernel))⟩
theorem fl_X12_245 : zFL RX12 245 12 45 := ⟨by decide, by decide, Or.inl (zTbl_i 987 (by decide +kernel) (by decide +kernel))⟩
theorem fl_X12_25 : zFL RX12 25 12 8 := ⟨by decide, by decide, Or.inl (zTbl_i 950 (by decide +kernel) (by decide +kernel))⟩
theorem fl_X12_252 : zFL RX12 252 12 53 := ⟨by decide, by decide, Or.inl (zTbl_i 995 (by decide +kernel) (by decide +kernel))⟩
theorem fl_X12_255 : zFL RX12 255 12 52 := ⟨by decide, by decide, Or.inl (zTbl_i 994 (by decide +kernel) (by decide +kernel))⟩
theorem fl_X12_258 : zFL RX12 258 12 34 := ⟨by decide, by decide, Or.inl (zTbl_i 976 (by decide +kernel) (by decide +kernel))⟩
theorem fl_X12_261 : zFL RX12 261 12 61 := ⟨by decide, by decide, Or.inl (zTbl_i 1003 (by decide +kernel) (by decide +kernel))⟩
theorem fl_X12_267 : zFL RX12 267 12 54 := ⟨by decide, by decide, Or.inl (zTbl_i 996 (by decide +kernel) (by decide +kernel))⟩
theorem fl_X12_270 : zFL RX12 270 12 60 := ⟨by decide, by decide, Or.inl (zTbl_i 1002 (by decide +kernel) (by decide +kernel))⟩
theorem fl_X12_28 : zFL RX12 28 12 9 := ⟨by decide, by decide, Or.inl (zTbl_i 951 (by decide +kernel) (by decide +kernel))⟩
theorem fl_X12_281 : zFL RX12 281 12 57 := ⟨by decide, by decide, Or.inl (zTbl_i 999 (by decide +kernel) (by decide +kernel))⟩
theorem fl_X12_300 : zFL RX12 300 12 58 := ⟨by decide, by decide, Or.inl (zTbl_i 1000 (by decide +kernel) (by decide +kernel))⟩
theorem fl_X12_31 : zFL RX12 31 12 10 := ⟨by decide, by decide, Or.inl (zTbl_i 952 (by decide +kernel) (by decide +kernel))⟩
theorem fl_X12_324 : zFL RX12 324 12 43 := ⟨by decide, by decide, Or.inl (zTbl_i 985 (by decide +kernel) (by decide +kernel))⟩
theorem fl_X12_327 : zFL RX12 327 12 56 := ⟨by decide, by decide, Or.inl (zTbl_i 998 (by decide +kernel) (by decide +kernel))⟩
theorem fl_X12_34 : zFL RX12 34 12 11 := ⟨by decide, by decide, Or.inl (zTbl_i 953 (by decide +kernel) (by decide +kernel))⟩
theorem fl_X12_362 : zFL RX12 362 12 62 := ⟨by decide, by decide, Or.inl (zTbl_i 1004 (by decide +kernel) (by decide +kernel))⟩
theorem fl_X12_38 : zFL RX12 38 12 13 := ⟨by decide, by decide, Or.inl (zTbl_i 955 (by decide +kernel) (by decide +kernel))⟩
theorem fl_X12_41 : zFL RX12 41 12 14 := ⟨by decide, by decide, Or.inl (zTbl_i 956 (by decide +kernel) (by decide +kernel))⟩
theorem fl_X12_44 : zFL RX12 44 12 15 := ⟨by decide, by decide, Or.inl (zTbl_i 957 (by decide +kernel) (by decide +kernel))⟩
theorem fl_X12_47 : zFL RX12 47 12 17 := ⟨by decide, by decide, Or.inl (zTbl_i 959 (by decide +kernel) (by decide +kernel))⟩
theorem fl_X12_50 : zFL RX12 50 12 18 := ⟨by decide, by decide, Or.inl (zTbl_i 960 (by decide +kernel) (by decide +kernel))⟩
theorem fl_X12_53 : zFL RX12 53 12 19 := ⟨by decide, by decide, Or.inl (zTbl_i 961 (by decide +kernel) (by decide +kernel))⟩
theorem fl_X12_56 : zFL RX12 56 12 20 := ⟨by decide, by decide, Or.inl (zTbl_i 962 (by decide +kernel) (by decide +kernel))⟩
theorem fl_X12_59 : zFL RX12 59 12 23 := ⟨by decide, by decide, Or.inl (zTbl_i 965 (by decide +kernel) (by decide +kernel))⟩
theorem fl_X12_62 : zFL RX12 62 12 24 := ⟨by decide, by decide, Or.inl (zTbl_i 966 (by decide +kernel) (by decide +kernel))⟩
theorem fl_X12_66 : zFL RX12 66 12 26 := ⟨by decide, by decide, Or.inl (zTbl_i 968 (by decide +kernel) (by decide +kernel))⟩
theorem fl_X12_69 : zFL RX12 69 12 27 := ⟨by decide, by decide, Or.inl (zTbl_i 969 (by decide +kernel) (by decide +kernel))⟩
theorem fl_X12_7 : zFL RX12 7 12 1 := ⟨by decide, by decide, Or.inl (zTbl_i 943 (by decide +kernel) (by decide +kernel))⟩
theorem fl_X12_72 : zFL RX12 72 12 28 := ⟨by decide, by decide, Or.inl (zTbl_i 970 (by decide +kernel) (by decide +kernel))⟩
theorem fl_X12_75 : zFL RX12 75 12 29 := ⟨by decide, by decide, Or.inl (zTbl_i 971 (by decide +kernel) (by decide +kernel))⟩
theorem fl_X12_78 : zFL RX12 78 12 30 := ⟨by decide, by decide, Or.inl (zTbl_i 972 (by decide +kernel) (by decide +kernel))⟩
theorem fl_X12_81 : zFL RX12 81 12 31 := ⟨by decide, by decide, Or.inl (zTbl_i 973 (by decide +kernel) (by decide +kernel))⟩
theorem fl_X12_84 : zFL RX12 84 12 32 := ⟨by decide, by decide, Or.inl (zTbl_i 974 (by decide +kernel) (by decide +kernel))⟩
theorem fl_X12_87 : zFL RX12 87 12 35 := ⟨by decide, by decide, Or.inl (zTbl_i 977 (by decide +kernel) (by decide +kernel))⟩
theorem fl_X12_90 : zFL RX12 90 12 36 := ⟨by decide, by decide, Or.inl (zTbl_i 978 (by decide +kernel) (by decide +kernel))⟩
theorem fl_X12_93 : zFL RX12 93 12 37 := ⟨by decide, by decide, Or.inl (zTbl_i 979 (by decide +kernel) (by decide +kernel))⟩
theorem fl_X12_96 : zFL RX12 96 12 38 := ⟨by decide, by decide, Or.inl (zTbl_i 980 (by decide +kernel) (by decide +kernel))⟩
theorem fl_X12_99 : zFL RX12 99 12 39 := ⟨by decide, by decide, Or.inl (zTbl_i 981 (by decide +kernel) (by decide +kernel))⟩
theorem fl_X1_11 : zFL RX1 11 1 3 := ⟨by decide, by decide, Or.inl (zTbl_i 278 (by decide +kernel) (by decide +kernel))⟩
theorem fl_X1_17 : zFL RX1 17 1 0 := ⟨by decide, by decide, Or.inl (zTbl_i 272 (by decide +kernel) (by decide +kernel))⟩
theorem fl_X1_21 : zFL RX1 21 1 1 := ⟨by decide, by decide, Or.inl (zTbl_i 274 (by decide +kernel) (by decide +kernel))⟩
theorem fl_X1_25 : zFL RX1 25 1 2 := ⟨by decide, by decide, Or.inl (zTbl_i 276 (by decide +kernel) (by decide +kernel))⟩
theorem fl_X2_15 : zFL RX2 15 2 1 := ⟨by decide, by decide, Or.inl (zTbl_i 206 (by decide +kernel) (by decide +kernel))⟩
theorem fl_X2_18 : zFL RX2 18 2 2 := ⟨by decide, by decide, Or.inl (zTbl_i 207 (by decide +kernel) (by decide +kernel))⟩
theorem fl_X2_21 : zFL RX2 21 2 3 := ⟨by decide, by decide, Or.inl (zTbl_i 208 (by decide +kernel) (by decide +kernel))⟩
theorem fl_X2_24 : zFL RX2 24 2 4 := ⟨by decide, by decide, Or.inl (zTbl_i 209 (by decide +kernel) (by decide +kernel))⟩
theorem fl_X2_27 : zFL RX2 27 2 5 := ⟨by decide, by decide, Or.inl (zTbl_i 210 (by decide +kernel) (by decide +kernel))⟩
theorem fl_X2_30 : zFL RX2 30 2 6 := ⟨by decide, by decide, Or.inl (zTbl_i 211 (by decide +kernel) (by decide +kernel))⟩
theorem fl_X2_9 : zFL RX2 9 2 0 := ⟨by decide, by decide, Or.inl (zTbl_i 205 (by decide +kernel) (by decide +kernel))⟩
theorem fl_X3_105 : zFL RX3 105 6 2 := ⟨by decide, by decide, Or.inl (zTbl_i 469 (by decide +kernel) (by decide +kernel))⟩
theorem fl_X3_11 : zFL RX3 11 3 0 := ⟨by decide, by decide, Or.inl (zTbl_i 150 (by decide +kernel) (by decide +kernel))⟩
theorem fl_X3_17 : zFL RX3 17 3 2 := ⟨by decide, by decide, Or.inl (zTbl_i 152 (by decide +kernel) (by decide +kernel))⟩
theorem fl_X3_21 : zFL RX3 21 3 4 := ⟨by decide, by decide, Or.inl (zTbl_i 154 (by decide +kernel) (by decide +kernel))⟩
theorem fl_X3_24 : zFL RX3 24 3 6 := ⟨by decide, by decide, Or.inl (zTbl_i 157 (by decide +kernel) (by decide +kernel))⟩
theorem fl_X3_31 : zFL RX3 31 3 7 := ⟨by decide, by decide, Or.inl (zTbl_i 159 (by decide +kernel) (by decide +kernel))⟩
theorem fl_X3_38 : zFL RX3 38 3 8 := ⟨by decide, by decide, Or.inl (zTbl_i 162 (by decide +kernel) (by decide +kernel))⟩
theorem fl_X3_42 : zFL RX3 42 3 1 := ⟨by decide, by decide, Or.inl (zTbl_i 151 (by decide +kernel) (by decide +kernel))⟩
theorem fl_X3_50 : zFL RX3 50 3 5 := ⟨by decide, by decide, Or.inl (zTbl_i 155 (by decide +kernel) (by decide +kernel))⟩
theorem fl_X3_57 : zFL RX3 57 3 3 := ⟨by decide, by decide, Or.inl (zTbl_i 153 (by decide +kernel) (by decide +kernel))⟩
theorem fl_X3_63 : zFL RX3 63 6 1 := ⟨by decide, by decide, Or.inl (zTbl_i 467 (by decide +kernel) (by decide +kernel))⟩
theorem fl_X3_66 : zFL RX3 66 6 3 := ⟨by decide, by decide, Or.inl (zTbl_i 471 (by decide +kernel) (by decide +kernel))⟩
theorem fl_X3_79 : zFL RX3 79 6 4 := ⟨by decide, by decide, Or.inl (zTbl_i 473 (by decide +kernel) (by decide +kernel))⟩
theorem fl_X3_82 : zFL RX3 82 6 7 := ⟨by decide, by decide, Or.inl (zTbl_i 480 (by decide +kernel) (by decide +kernel))⟩
theorem fl_X3_85 : zFL RX3 85 6 0 := ⟨by decide, by decide, Or.inl (zTbl_i 463 (by decide +kernel) (by decide +kernel))⟩
theorem fl_X4_13 : zFL RX4 13 4 1 := ⟨by decide, by decide, Or.inl (zTbl_i 348 (by decide +kernel) (by decide +kernel))⟩
theorem fl_X4_17 : zFL RX4 17 4 2 := ⟨by decide, by decide, Or.inl (zTbl_i 350 (by decide +kernel) (by decide +kernel))⟩
theorem fl_X4_21 : zFL RX4 21 4 3 := ⟨by decide, by decide, Or.inl (zTbl_i 352 (by decide +kernel) (by decide +kernel))⟩
theorem fl_X4_25 : zFL RX4 25 4 4 := ⟨by decide, by decide, Or.inl (zTbl_i 353 (by decide +kernel) (by decide +kernel))⟩
theorem fl_X4_28 : zFL RX4 28 4 5 := ⟨by decide, by decide, Or.inl (zTbl_i 355 (by decide +kernel) (by decide +kernel))⟩
theorem fl_X4_32 : zFL RX4 32 4 6 := ⟨by decide, by decide, Or.inl (zTbl_i 356 (by decide +kernel) (by decide +kernel))⟩
theorem fl_X4_35 : zFL RX4 35 4 7 := ⟨by decide, by decide, Or.inl (zTbl_i 357 (by decide +kernel) (by decide +kernel))⟩
theorem fl_X4_41 : zFL RX4 41 9 2 := ⟨by decide, by decide, Or.inr ⟨"HireScopes", List.mem_of_getElem? (i := 332) (by decide +kernel)⟩⟩
theorem fl_X4_7 : zFL RX4 7 4 0 := ⟨by decide, by decide, Or.inl (zTbl_i 346 (by decide +kernel) (by decide +kernel))⟩
theorem fl_X5_15 : zFL RX5 15 5 1 := ⟨by decide, by decide, Or.inl (zTbl_i 135 (by decide +kernel) (by decide +kernel))⟩
theorem fl_X5_18 : zFL RX5 18 5 2 := ⟨by decide, by decide, Or.inl (zTbl_i 136 (by decide +kernel) (by decide +kernel))⟩
theorem fl_X5_21 : zFL RX5 21 5 4 := ⟨by decide, by decide, Or.inl (zTbl_i 138 (by decide +kernel) (by decide +kernel))⟩
theorem fl_X5_25 : zFL RX5 25 5 3 := ⟨by decide, by decide, Or.inl (zTbl_i 137 (by decide +kernel) (by decide +kernel))⟩
theorem fl_X5_9 : zFL RX5 9 5 0 := ⟨by decide, by decide, Or.inl (zTbl_i 134 (by decide +kernel) (by decide +kernel))⟩
theorem fl_X6_15 : zFL RX6 15 6 1 := ⟨by decide, by decide, Or.inl (zTbl_i 466 (by decide +kernel) (by decide +kernel))⟩
theorem fl_X6_18 : zFL RX6 18 6 2 := ⟨by decide, by decide, Or.inl (zTbl_i 468 (by decide +kernel) (by decide +kernel))⟩
theorem fl_X6_21 : zFL RX6 21 6 5 := ⟨by decide, by decide, Or.inl (zTbl_i 475 (by decide +kernel) (by decide +kernel))⟩
theorem fl_X6_25 : zFL RX6 25 6 6 := ⟨by decide, by decide, Or.inl (zTbl_i 477 (by decide +kernel) (by decide +kernel))⟩
theorem fl_X6_28 : zFL RX6 28 6 7 := ⟨by decide, by decide, Or.inl (zTbl_i 479 (by decide +kernel) (by decide +kernel))⟩
theorem fl_X6_9 : zFL RX6 9 6 0 := ⟨by decide, by decide, Or.inl (zTbl_i 462 (by decide +kernel) (by decide +kernel))⟩
theorem fl_X7_15 : zFL RX7 15 7 1 := ⟨by decide, by decide, Or.inl (zTbl_i 113 (by decide +kernel) (by decide +kernel))⟩
theorem fl_X7_18 : zFL RX7 18 7 2 := ⟨by decide, by decide, Or.inl (zTbl_i 114 (by decide +kernel) (by decide +kernel))⟩
theorem fl_X7_21 : zFL RX7 21 7 3 := ⟨by decide, by decide, Or.inl (zTbl_i 115 (by decide +kernel) (by decide +kernel))⟩
theorem fl_X7_9 : zFL RX7 9 7 0 := ⟨by decide, by decide, Or.inl (zTbl_i 112 (by decide +kernel) (by decide +kernel))⟩
theorem fl_X8_100 : zFL RX8 100 1 0 := ⟨by decide, by decide, Or.inr ⟨"HireScopes", List.mem_of_getElem? (i := 273) (by decide +kernel)⟩⟩
theorem fl_X8_104 : zFL RX8 104 1 2 := ⟨by decide, by decide, Or.inr ⟨"HireScopes", List.mem_of_getElem? (i := 277) (by decide +kernel)⟩⟩
theorem fl_X8_11 : zFL RX8 11 8 2 := ⟨by decide, by decide, Or.inl (zTbl_i 377 (by decide +kernel) (by decide +kernel))⟩
theorem fl_X8_129 : zFL RX8 129 8 11 := ⟨by decide, by decide, Or.inl (zTbl_i 387 (by decide +kernel) (by decide +kernel))⟩
theorem fl_X8_132 : zFL RX8 132 8 5 := ⟨by decide, by decide, Or.inl (zTbl_i 380 (by decide +kernel) (by decide +kernel))⟩
theorem fl_X8_135 : zFL RX8 135 8 7 := ⟨by decide, by decide, Or.inl (zTbl_i 382 (by decide +kernel) (by decide +kernel))⟩
theorem fl_X8_19 : zFL RX8 19 8 4 := ⟨by decide, by decide, Or.inl (zTbl_i 379 (by decide +kernel) (by decide +kernel))⟩
theorem fl_X8_201 : zFL RX8 201 6 3 := ⟨by decide, by decide, Or.inl (zTbl_i 472 (by decide +kernel) (by decide +kernel))⟩
theorem fl_X8_221 : zFL RX8 221 1 1 := ⟨by decide, by decide, Or.inr ⟨"HireScopes", List.mem_of_getElem? (i := 275) (by decide +kernel)⟩⟩
theorem fl_X8_25 : zFL RX8 25 8 6 := ⟨by decide, by decide, Or.inl (zTbl_i 381 (by decide +kernel) (by decide +kernel))⟩
theorem fl_X8_250 : zFL RX8 250 3 7 := ⟨by decide, by decide, Or.inr ⟨"HireScopes", List.mem_of_getElem? (i := 161) (by decide +kernel)⟩⟩
theorem fl_X8_263 : zFL RX8 263 4 0 := ⟨by decide, by decide, Or.inr ⟨"HireScopes", List.mem_of_getElem? (i := 347) (by decide +kernel)⟩⟩
theorem fl_X8_267 : zFL RX8 267 4 1 := ⟨by decide, by decide, Or.inr ⟨"HireScopes", List.mem_of_getElem? (i := 349) (by decide +kernel)⟩⟩
theorem fl_X8_274 : zFL RX8 274 4 2 := ⟨by decide, by decide, Or.inr ⟨"HireScopes", List.mem_of_getElem? (i := 351) (by decide +kernel)⟩⟩
theorem fl_X8_278 : zFL RX8 278 4 4 := ⟨by decide, by decide, Or.inr ⟨"HireScopes", List.mem_of_getElem? (i := 354) (by decide +kernel)⟩⟩
theorem fl_X8_282 : zFL RX8 282 6 0 := ⟨by decide, by decide, Or.inl (zTbl_i 465 (by decide +kernel) (by decide +kernel))⟩
theorem fl_X8_297 : zFL RX8 297 0 0 := ⟨by decide, by decide, Or.inr ⟨"HireScopes", List.mem_of_getElem? (i := 294) (by decide +kernel)⟩⟩
theorem fl_X8_307 : zFL RX8 307 0 3 := ⟨by decide, by decide, Or.inr ⟨"HireScopes", List.mem_of_getElem? (i := 300) (by decide +kernel)⟩⟩
theorem fl_X8_31 : zFL RX8 31 8 8 := ⟨by decide, by decide, Or.inl (zTbl_i 383 (by decide +kernel) (by decide +kernel))⟩
theorem fl_X8_322 : zFL RX8 322 0 2 := ⟨by decide, by decide, Or.inr ⟨"HireScopes", List.mem_of_getElem? (i := 298) (by decide +kernel)⟩⟩
theorem fl_X8_325 : zFL RX8 325 0 1 := ⟨by decide, by decide, Or.inr ⟨"HireScopes", List.mem_of_getElem? (i := 296) (by decide +kernel)⟩⟩
theorem fl_X8_328 : zFL RX8 328 0 5 := ⟨by decide, by decide, Or.inr ⟨"HireScopes", List.mem_of_getElem? (i := 304) (by decide +kernel)⟩⟩
theorem fl_X8_331 : zFL RX8 331 0 6 := ⟨by decide, by decide, Or.inr ⟨"HireScopes", List.mem_of_getElem? (i := 306) (by decide +kernel)⟩⟩
theorem fl_X8_361 : zFL RX8 361 0 4 := ⟨by decide, by decide, Or.inr ⟨"HireScopes", List.mem_of_getElem? (i := 302) (by decide +kernel)⟩⟩
theorem fl_X8_370 : zFL RX8 370 9 2 := ⟨by decide, by decide, Or.inr ⟨"HireScopes", List.mem_of_getElem? (i := 333) (by decide +kernel)⟩⟩
theorem fl_X8_377 : zFL RX8 377 9 0 := ⟨by decide, by decide, Or.inr ⟨"HireScopes", List.mem_of_getElem? (i := 328) (by decide +kernel)⟩⟩
theorem fl_X8_38 : zFL RX8 38 8 10 := ⟨by decide, by decide, Or.inl (zTbl_i 385 (by decide +kernel) (by decide +kernel))⟩
theorem fl_X8_380 : zFL RX8 380 9 1 := ⟨by decide, by decide, Or.inr ⟨"HireScopes", List.mem_of_getElem? (i := 330) (by decide +kernel)⟩⟩
theorem fl_X8_42 : zFL RX8 42 8 13 := ⟨by decide, by decide, Or.inl (zTbl_i 389 (by decide +kernel) (by decide +kernel))⟩
theorem fl_X8_46 : zFL RX8 46 8 0 := ⟨by decide, by decide, Or.inl (zTbl_i 375 (by decide +kernel) (by decide +kernel))⟩
theorem fl_X8_50 : zFL RX8 50 8 1 := ⟨by decide, by decide, Or.inl (zTbl_i 376 (by decide +kernel) (by decide +kernel))⟩
theorem fl_X8_63 : zFL RX8 63 8 17 := ⟨by decide, by decide, Or.inl (zTbl_i 393 (by decide +kernel) (by decide +kernel))⟩
theorem fl_X8_66 : zFL RX8 66 8 14 := ⟨by decide, by decide, Or.inl (zTbl_i 390 (by decide +kernel) (by decide +kernel))⟩
theorem fl_X8_69 : zFL RX8 69 2 6 := ⟨by decide, by decide, Or.inr ⟨"HireScopes", List.mem_of_getElem? (i := 212) (by decide +kernel)⟩⟩
theorem fl_X8_72 : zFL RX8 72 8 9 := ⟨by decide, by decide, Or.inl (zTbl_i 384 (by decide +kernel) (by decide +kernel))⟩
theorem fl_X8_75 : zFL RX8 75 8 15 := ⟨by decide, by decide, Or.inl (zTbl_i 391 (by decide +kernel) (by decide +kernel))⟩
theorem fl_X8_78 : zFL RX8 78 8 16 := ⟨by decide, by decide, Or.inl (zTbl_i 392 (by decide +kernel) (by decide +kernel))⟩
theorem fl_X8_94 : zFL RX8 94 8 3 := ⟨by decide, by decide, Or.inl (zTbl_i 378 (by decide +kernel) (by decide +kernel))⟩
theorem fl_X8_97 : zFL RX8 97 8 12 := ⟨by decide, by decide, Or.inl (zTbl_i 388 (by decide +kernel) (by decide +kernel))⟩
theorem fl_X9_13 : zFL RX9 13 9 1 := ⟨by decide, by decide, Or.inl (zTbl_i 329 (by decide +kernel) (by decide +kernel))⟩
theorem fl_X9_16 : zFL RX9 16 9 2 := ⟨by decide, by decide, Or.inl (zTbl_i 331 (by decide +kernel) (by decide +kernel))⟩
theorem fl_X9_7 : zFL RX9 7 9 0 := ⟨by decide, by decide, Or.inl (zTbl_i 327 (by decide +kernel) (by decide +kernel))⟩
set_option maxRecDepth 20000 in
theorem mc_X0_begin : zMc yX0_begin cX0_begin 4 none 3 := ⟨zTbl_i 637 rfl rfl, (zTbl_i 84 (by decide +kernel) (by decide +kernel)), by decide +kernel, by decide⟩
set_option maxRecDepth 20000 in
theorem mc_X0_init : zMc yX0_init cX0_init 1 none 0 := ⟨zTbl_i 291 rfl rfl, (zTbl_i 84 (by decide +kernel) (by decide +kernel)), by decide +kernel, by decide⟩
set_option maxRecDepth 20000 in
theorem mc_X10_aAt : zMc yX10_aAt cX10_aAt 2 (some .int) 1 := ⟨zTbl_i 744 rfl rfl, (zTbl_i 82 (by decide +kernel) (by decide +kernel)), by decide +kernel, by decide⟩
set_option maxRecDepth 20000 in
theorem mc_X10_add : zMc yX10_add cX10_add 4 (some .int) 3 := ⟨zTbl_i 556 rfl rfl, (zTbl_i 82 (by decide +kernel) (by decide +kernel)), by decide +kernel, by decide⟩
set_option maxRecDepth 20000 in
theorem mc_X10_bAt : zMc yX10_bAt cX10_bAt 2 (some .int) 1 := ⟨zTbl_i 794 rfl rfl, (zTbl_i 82 (by decide +kernel) (by decide +kernel)), by decide +kernel, by decide⟩
set_option maxRecDepth 20000 in
theorem mc_X10_clear : zMc yX10_clear cX10_clear 2 (some .int) 0 := ⟨zTbl_i 596 rfl rfl, (zTbl_i 82 (by decide +kernel) (by decide +kernel)), by decide +kernel, by decide⟩
set_option maxRecDepth 20000 in
theorem mc_X10_faultLine : zMc yX10_faultLine cX10_faultLine 1 (some .int) 0 := ⟨zTbl_i 608 rfl rfl, (zTbl_i 82 (by decide +kernel) (by decide +kernel)), by decide +kernel, by decide⟩
set_option maxRecDepth 20000 in
theorem mc_X10_faultNumber : zMc yX10_faultNumber cX10_faultNumber 1 (some .int) 0 := ⟨zTbl_i 604 rfl rfl, (zTbl_i 82 (by decide +kernel) (by decide +kernel)), by decide +kernel, by decide⟩
set_option maxRecDepth 20000 in
theorem mc_X10_faultOf : zMc yX10_faultOf cX10_faultOf 4 (some .int) 3 := ⟨zTbl_i 561 rfl rfl, (zTbl_i 82 (by decide +kernel) (by decide +kernel)), by decide +kernel, by decide⟩
set_option maxRecDepth 20000 in
theorem mc_X10_fits : zMc yX10_fits cX10_fits 2 (some .boolean) 2 := ⟨zTbl_i 566 rfl rfl, (zTbl_i 82 (by decide +kernel) (by decide +kernel)), by decide +kernel, by decide⟩
set_option maxRecDepth 20000 in
theorem mc_X10_guardFor : zMc yX10_guardFor cX10_guardFor 5 (some .int) 2 := ⟨zTbl_i 739 rfl rfl, (zTbl_i 82 (by decide +kernel) (by decide +kernel)), by decide +kernel, by decide⟩
set_option maxRecDepth 20000 in
theorem mc_X10_init : zMc yX10_init cX10_init 1 none 0 := ⟨zTbl_i 233 rfl rfl, (zTbl_i 82 (by decide +kernel) (by decide +kernel)), by decide +kernel, by decide⟩
set_option maxRecDepth 20000 in
theorem mc_X10_isInLoop : zMc yX10_isInLoop cX10_isInLoop 2 (some .boolean) 0 := ⟨zTbl_i 580 rfl rfl, (zTbl_i 82 (by decide +kernel) (by decide +kernel)), by decide +kernel, by decide⟩
set_option maxRecDepth 20000 in
theorem mc_X10_linkMark : zMc yX10_linkMark cX10_linkMark 4 none 2 := ⟨zTbl_i 588 rfl rfl, (zTbl_i 82 (by decide +kernel) (by decide +kernel)), by decide +kernel, by decide⟩
set_option maxRecDepth 20000 in
theorem mc_X10_nextOf : zMc yX10_nextOf cX10_nextOf 2 (some .int) 1 := ⟨zTbl_i 723 rfl rfl, (zTbl_i 82 (by decide +kernel) (by decide +kernel)), by decide +kernel, by decide⟩
set_option maxRecDepth 20000 in
theorem mc_X10_opAt : zMc yX10_opAt cX10_opAt 2 (some .int) 1 := ⟨zTbl_i 576 rfl rfl, (zTbl_i 82 (by decide +kernel) (by decide +kernel)), by decide +kernel, by decide⟩
set_option maxRecDepth 20000 in
theorem mc_X10_place : zMc yX10_place cX10_place 3 none 2 := ⟨zTbl_i 584 rfl rfl, (zTbl_i 82 (by decide +kernel) (by decide +kernel)), by decide +kernel, by decide⟩
set_option maxRecDepth 20000 in
theorem mc_X10_takesWays : zMc yX10_takesWays cX10_takesWays 2 (some .boolean) 0 := ⟨zTbl_i 572 rfl rfl, (zTbl_i 82 (by decide +kernel) (by decide +kernel)), by decide +kernel, by decide⟩
set_option maxRecDepth 20000 in
theorem mc_X10_wayOut : zMc yX10_wayOut cX10_wayOut 4 (some .int) 1 := ⟨zTbl_i 769 rfl rfl, (zTbl_i 82 (by decide +kernel) (by decide +kernel)), by decide +kernel, by decide⟩
set_option maxRecDepth 20000 in
theorem mc_X11_act : zMc yX11_act cX11_act 1 (some .int) 0 := ⟨zTbl_i 544 rfl rfl, (zTbl_i 76 (by decide +kernel) (by decide +kernel)), by decide +kernel, by decide⟩
set_option maxRecDepth 20000 in
theorem mc_X11_cents : zMc yX11_cents cX11_cents 3 (some .long) 2 := ⟨zTbl_i 920 rfl rfl, (zTbl_i 76 (by decide +kernel) (by decide +kernel)), by decide +kernel, by decide⟩
set_option maxRecDepth 20000 in
theorem mc_X11_clean : zMc yX11_clean cX11_clean 2 (some .int) 1 := ⟨zTbl_i 510 rfl rfl, (zTbl_i 76 (by decide +kernel) (by decide +kernel)), by decide +kernel, by decide⟩
set_option maxRecDepth 20000 in
theorem mc_X11_cleaning : zMc yX11_cleaning cX11_cleaning 2 (some .int) 1 := ⟨zTbl_i 526 rfl rfl, (zTbl_i 76 (by decide +kernel) (by decide +kernel)), by decide +kernel, by decide⟩
set_option maxRecDepth 20000 in
theorem mc_X11_failure : zMc yX11_failure cX11_failure 3 (some .int) 2 := ⟨zTbl_i 891 rfl rfl, (zTbl_i 76 (by decide +kernel) (by decide +kernel)), by decide +kernel, by decide⟩
set_option maxRecDepth 20000 in
theorem mc_X11_fault : zMc yX11_fault cX11_fault 4 (some .int) 2 := ⟨zTbl_i 600 rfl rfl, (zTbl_i 76 (by decide +kernel) (by decide +kernel)), by decide +kernel, by decide⟩
set_option maxRecDepth 20000 in
theorem mc_X11_findScript : zMc yX11_findScript cX11_findScript 2 (some (.object "HireScopes$Script")) 2 := ⟨zTbl_i 552 rfl rfl, (zTbl_i 76 (by decide +kernel) (by decide +kernel)), by decide +kernel, by decide⟩
set_option maxRecDepth 20000 in
theorem mc_X11_giveBack : zMc yX11_giveBack cX11_giveBack 3 (some .int) 1 := ⟨zTbl_i 915 rfl rfl, (zTbl_i 76 (by decide +kernel) (by decide +kernel)), by decide +kernel, by decide⟩
set_option maxRecDepth 20000 in
theorem mc_X11_init : zMc yX11_init cX11_init 3 none 0 := ⟨zTbl_i 94 rfl rfl, (zTbl_i 76 (by decide +kernel) (by decide +kernel)), by decide +kernel, by decide⟩
set_option maxRecDepth 20000 in
theorem mc_X11_isUnder : zMc yX11_isUnder cX11_isUnder 4 (some .boolean) 2 := ⟨zTbl_i 747 rfl rfl, (zTbl_i 76 (by decide +kernel) (by decide +kernel)), by decide +kernel, by decide⟩
set_option maxRecDepth 20000 in
theorem mc_X11_leak : zMc yX11_leak cX11_leak 4 (some .int) 2 := ⟨zTbl_i 903 rfl rfl, (zTbl_i 76 (by decide +kernel) (by decide +kernel)), by decide +kernel, by decide⟩
set_option maxRecDepth 20000 in
theorem mc_X11_leaks : zMc yX11_leaks cX11_leaks 1 (some .int) 0 := ⟨zTbl_i 899 rfl rfl, (zTbl_i 76 (by decide +kernel) (by decide +kernel)), by decide +kernel, by decide⟩
set_option maxRecDepth 20000 in
theorem mc_X11_line : zMc yX11_line cX11_line 6 (some .int) 4 := ⟨zTbl_i 549 rfl rfl, (zTbl_i 76 (by decide +kernel) (by decide +kernel)), by decide +kernel, by decide⟩
set_option maxRecDepth 20000 in
theorem mc_X11_log : zMc yX11_log cX11_log 3 (some .int) 2 := ⟨zTbl_i 930 rfl rfl, (zTbl_i 76 (by decide +kernel) (by decide +kernel)), by decide +kernel, by decide⟩
set_option maxRecDepth 20000 in
theorem mc_X11_part : zMc yX11_part cX11_part 3 (some .int) 2 := ⟨zTbl_i 447 rfl rfl, (zTbl_i 76 (by decide +kernel) (by decide +kernel)), by decide +kernel, by decide⟩
set_option maxRecDepth 20000 in
theorem mc_X11_plan : zMc yX11_plan cX11_plan 4 (some .int) 3 := ⟨zTbl_i 531 rfl rfl, (zTbl_i 76 (by decide +kernel) (by decide +kernel)), by decide +kernel, by decide⟩
set_option maxRecDepth 20000 in
theorem mc_X11_plans : zMc yX11_plans cX11_plans 3 (some .int) 1 := ⟨zTbl_i 540 rfl rfl, (zTbl_i 76 (by decide +kernel) (by decide +kernel)), by decide +kernel, by decide⟩
set_option maxRecDepth 20000 in
theorem mc_X11_ran : zMc yX11_ran cX11_ran 2 (some .int) 1 := ⟨zTbl_i 883 rfl rfl, (zTbl_i 76 (by decide +kernel) (by decide +kernel)), by decide +kernel, by decide⟩
set_option maxRecDepth 20000 in
theorem mc_X11_run : zMc yX11_run cX11_run 4 (some .int) 2 := ⟨zTbl_i 612 rfl rfl, (zTbl_i 76 (by decide +kernel) (by decide +kernel)), by decide +kernel, by decide⟩
set_option maxRecDepth 20000 in
theorem mc_X11_state : zMc yX11_state cX11_state 3 (some .int) 1 := ⟨zTbl_i 502 rfl rfl, (zTbl_i 76 (by decide +kernel) (by decide +kernel)), by decide +kernel, by decide⟩
set_option maxRecDepth 20000 in
theorem mc_X11_trace : zMc yX11_trace cX11_trace 5 (some .int) 3 := ⟨zTbl_i 911 rfl rfl, (zTbl_i 76 (by decide +kernel) (by decide +kernel)), by decide +kernel, by decide⟩
set_option maxRecDepth 20000 in
theorem mc_X11_wipe : zMc yX11_wipe cX11_wipe 3 (some .int) 1 := ⟨zTbl_i 592 rfl rfl, (zTbl_i 76 (by decide +kernel) (by decide +kernel)), by decide +kernel, by decide⟩
set_option maxRecDepth 20000 in
theorem mc_X11_within : zMc yX11_within cX11_within 2 (some .boolean) 2 := ⟨zTbl_i 450 rfl rfl, (zTbl_i 76 (by decide +kernel) (by decide +kernel)), by decide +kernel, by decide⟩
set_option maxRecDepth 20000 in
theorem mc_X12_above : zMc yX12_above cX12_above 1 (some .int) 1 := ⟨zTbl_i 1342 rfl rfl, (zTbl_i 87 (by decide +kernel) (by decide +kernel)), by decide +kernel, by decide⟩
set_option maxRecDepth 20000 in
theorem mc_X12_act : zMc yX12_act cX12_act 1 (some .int) 0 := ⟨zTbl_i 1186 rfl rfl, (zTbl_i 87 (by decide +kernel) (by decide +kernel)), by decide +kernel, by decide⟩
set_option maxRecDepth 20000 in
theorem mc_X12_begin : zMc yX12_begin cX12_begin 4 none 3 := ⟨zTbl_i 1232 rfl rfl, (zTbl_i 87 (by decide +kernel) (by decide +kernel)), by decide +kernel, by decide⟩
set_option maxRecDepth 20000 in
theorem mc_X12_beginAct : zMc yX12_beginAct cX12_beginAct 4 none 2 := ⟨zTbl_i 1228 rfl rfl, (zTbl_i 87 (by decide +kernel) (by decide +kernel)), by decide +kernel, by decide⟩
set_option maxRecDepth 20000 in
theorem mc_X12_beginScope : zMc yX12_beginScope cX12_beginScope 2 none 1 := ⟨zTbl_i 1240 rfl rfl, (zTbl_i 87 (by decide +kernel) (by decide +kernel)), by decide +kernel, by decide⟩
set_option maxRecDepth 20000 in
theorem mc_X12_begins : zMc yX12_begins cX12_begins 1 (some .boolean) 1 := ⟨zTbl_i 1220 rfl rfl, (zTbl_i 87 (by decide +kernel) (by decide +kernel)), by decide +kernel, by decide⟩
set_option maxRecDepth 20000 in
theorem mc_X12_behind : zMc yX12_behind cX12_behind 7 (some .int) 2 := ⟨zTbl_i 1292 rfl rfl, (zTbl_i 87 (by decide +kernel) (by decide +kernel)), by decide +kernel, by decide⟩
set_option maxRecDepth 20000 in
theorem mc_X12_cents : zMc yX12_cents cX12_cents 6 (some .long) 2 := ⟨zTbl_i 1378 rfl rfl, (zTbl_i 87 (by decide +kernel) (by decide +kernel)), by decide +kernel, by decide⟩
set_option maxRecDepth 20000 in
theorem mc_X12_clean : zMc yX12_clean cX12_clean 4 (some .int) 1 := ⟨zTbl_i 1168 rfl rfl, (zTbl_i 87 (by decide +kernel) (by decide +kernel)), by decide +kernel, by decide⟩
set_option maxRecDepth 20000 in
theorem mc_X12_cleaning : zMc yX12_cleaning cX12_cleaning 2 (some .int) 1 := ⟨zTbl_i 1173 rfl rfl, (zTbl_i 87 (by decide +kernel) (by decide +kernel)), by decide +kernel, by decide⟩
set_option maxRecDepth 20000 in
theorem mc_X12_comesBack : zMc yX12_comesBack cX12_comesBack 6 (some .boolean) 3 := ⟨zTbl_i 1264 rfl rfl, (zTbl_i 87 (by decide +kernel) (by decide +kernel)), by decide +kernel, by decide⟩
set_option maxRecDepth 20000 in
theorem mc_X12_doLine : zMc yX12_doLine cX12_doLine 9 none 2 := ⟨zTbl_i 1300 rfl rfl, (zTbl_i 87 (by decide +kernel) (by decide +kernel)), by decide +kernel, by decide⟩
set_option maxRecDepth 20000 in
theorem mc_X12_doSlot : zMc yX12_doSlot cX12_doSlot 8 none 5 := ⟨zTbl_i 1320 rfl rfl, (zTbl_i 87 (by decide +kernel) (by decide +kernel)), by decide +kernel, by decide⟩
set_option maxRecDepth 20000 in
theorem mc_X12_endAct : zMc yX12_endAct cX12_endAct 1 none 0 := ⟨zTbl_i 1346 rfl rfl, (zTbl_i 87 (by decide +kernel) (by decide +kernel)), by decide +kernel, by decide⟩
set_option maxRecDepth 20000 in
theorem mc_X12_endBlock : zMc yX12_endBlock cX12_endBlock 3 none 1 := ⟨zTbl_i 1248 rfl rfl, (zTbl_i 87 (by decide +kernel) (by decide +kernel)), by decide +kernel, by decide⟩
set_option maxRecDepth 20000 in
theorem mc_X12_endOf : zMc yX12_endOf cX12_endOf 4 (some .int) 2 := ⟨zTbl_i 1296 rfl rfl, (zTbl_i 87 (by decide +kernel) (by decide +kernel)), by decide +kernel, by decide⟩
set_option maxRecDepth 20000 in
theorem mc_X12_endScope : zMc yX12_endScope cX12_endScope 4 none 0 := ⟨zTbl_i 1252 rfl rfl, (zTbl_i 87 (by decide +kernel) (by decide +kernel)), by decide +kernel, by decide⟩
set_option maxRecDepth 20000 in
theorem mc_X12_fail : zMc yX12_fail cX12_fail 4 none 3 := ⟨zTbl_i 1304 rfl rfl, (zTbl_i 87 (by decide +kernel) (by decide +kernel)), by decide +kernel, by decide⟩
set_option maxRecDepth 20000 in
theorem mc_X12_failure : zMc yX12_failure cX12_failure 3 (some .int) 2 := ⟨zTbl_i 1358 rfl rfl, (zTbl_i 87 (by decide +kernel) (by decide +kernel)), by decide +kernel, by decide⟩
set_option maxRecDepth 20000 in
theorem mc_X12_fault : zMc yX12_fault cX12_fault 3 (some .int) 2 := ⟨zTbl_i 1202 rfl rfl, (zTbl_i 87 (by decide +kernel) (by decide +kernel)), by decide +kernel, by decide⟩
set_option maxRecDepth 20000 in
theorem mc_X12_findAct : zMc yX12_findAct cX12_findAct 1 none 0 := ⟨zTbl_i 1350 rfl rfl, (zTbl_i 87 (by decide +kernel) (by decide +kernel)), by decide +kernel, by decide⟩
set_option maxRecDepth 20000 in
theorem mc_X12_finishOf : zMc yX12_finishOf cX12_finishOf 4 (some .int) 2 := ⟨zTbl_i 1288 rfl rfl, (zTbl_i 87 (by decide +kernel) (by decide +kernel)), by decide +kernel, by decide⟩
set_option maxRecDepth 20000 in
theorem mc_X12_giveBack : zMc yX12_giveBack cX12_giveBack 4 (some .boolean) 2 := ⟨zTbl_i 1260 rfl rfl, (zTbl_i 87 (by decide +kernel) (by decide +kernel)), by decide +kernel, by decide⟩
set_option maxRecDepth 20000 in
theorem mc_X12_giveBack_ : zMc yX12_giveBack_ cX12_giveBack_ 5 (some .int) 1 := ⟨zTbl_i 1374 rfl rfl, (zTbl_i 87 (by decide +kernel) (by decide +kernel)), by decide +kernel, by decide⟩
set_option maxRecDepth 20000 in
theorem mc_X12_goOn : zMc yX12_goOn cX12_goOn 4 none 0 := ⟨zTbl_i 1244 rfl rfl, (zTbl_i 87 (by decide +kernel) (by decide +kernel)), by decide +kernel, by decide⟩
set_option maxRecDepth 20000 in
theorem mc_X12_goTo : zMc yX12_goTo cX12_goTo 2 none 1 := ⟨zTbl_i 1236 rfl rfl, (zTbl_i 87 (by decide +kernel) (by decide +kernel)), by decide +kernel, by decide⟩
set_option maxRecDepth 20000 in
theorem mc_X12_guardOf : zMc yX12_guardOf cX12_guardOf 4 (some .int) 2 := ⟨zTbl_i 1336 rfl rfl, (zTbl_i 87 (by decide +kernel) (by decide +kernel)), by decide +kernel, by decide⟩
set_option maxRecDepth 20000 in
theorem mc_X12_hasOpen : zMc yX12_hasOpen cX12_hasOpen 4 (some .boolean) 1 := ⟨zTbl_i 1324 rfl rfl, (zTbl_i 87 (by decide +kernel) (by decide +kernel)), by decide +kernel, by decide⟩
set_option maxRecDepth 20000 in
theorem mc_X12_in : zMc yX12_in cX12_in 6 (some .boolean) 3 := ⟨zTbl_i 1155 rfl rfl, (zTbl_i 87 (by decide +kernel) (by decide +kernel)), by decide +kernel, by decide⟩
set_option maxRecDepth 20000 in
theorem mc_X12_init : zMc yX12_init cX12_init 1 none 0 := ⟨zTbl_i 940 rfl rfl, (zTbl_i 87 (by decide +kernel) (by decide +kernel)), by decide +kernel, by decide⟩
set_option maxRecDepth 20000 in
theorem mc_X12_innermost : zMc yX12_innermost cX12_innermost 4 (some .int) 1 := ⟨zTbl_i 1312 rfl rfl, (zTbl_i 87 (by decide +kernel) (by decide +kernel)), by decide +kernel, by decide⟩
set_option maxRecDepth 20000 in
theorem mc_X12_isSlot : zMc yX12_isSlot cX12_isSlot 1 (some .boolean) 1 := ⟨zTbl_i 1212 rfl rfl, (zTbl_i 87 (by decide +kernel) (by decide +kernel)), by decide +kernel, by decide⟩
set_option maxRecDepth 20000 in
theorem mc_X12_isUnder : zMc yX12_isUnder cX12_isUnder 3 (some .boolean) 2 := ⟨zTbl_i 1339 rfl rfl, (zTbl_i 87 (by decide +kernel) (by decide +kernel)), by decide +kernel, by decide⟩
set_option maxRecDepth 20000 in
theorem mc_X12_isWrong : zMc yX12_isWrong cX12_isWrong 3 (some .boolean) 3 := ⟨zTbl_i 1209 rfl rfl, (zTbl_i 87 (by decide +kernel) (by decide +kernel)), by decide +kernel, by decide⟩
set_option maxRecDepth 20000 in
theorem mc_X12_judge : zMc yX12_judge cX12_judge 8 none 1 := ⟨zTbl_i 1206 rfl rfl, (zTbl_i 87 (by decide +kernel) (by decide +kernel)), by decide +kernel, by decide⟩
set_option maxRecDepth 20000 in
theorem mc_X12_lastOf : zMc yX12_lastOf cX12_lastOf 4 (some .int) 1 := ⟨zTbl_i 1256 rfl rfl, (zTbl_i 87 (by decide +kernel) (by decide +kernel)), by decide +kernel, by decide⟩
set_option maxRecDepth 20000 in
theorem mc_X12_leak : zMc yX12_leak cX12_leak 3 (some .int) 2 := ⟨zTbl_i 1366 rfl rfl, (zTbl_i 87 (by decide +kernel) (by decide +kernel)), by decide +kernel, by decide⟩
set_option maxRecDepth 20000 in
theorem mc_X12_leaks : zMc yX12_leaks cX12_leaks 1 (some .int) 0 := ⟨zTbl_i 1362 rfl rfl, (zTbl_i 87 (by decide +kernel) (by decide +kernel)), by decide +kernel, by decide⟩
set_option maxRecDepth 20000 in
theorem mc_X12_leaveTry : zMc yX12_leaveTry cX12_leaveTry 4 none 0 := ⟨zTbl_i 1284 rfl rfl, (zTbl_i 87 (by decide +kernel) (by decide +kernel)), by decide +kernel, by decide⟩
set_option maxRecDepth 20000 in
theorem mc_X12_line : zMc yX12_line cX12_line 6 (some .int) 4 := ⟨zTbl_i 1190 rfl rfl, (zTbl_i 87 (by decide +kernel) (by decide +kernel)), by decide +kernel, by decide⟩
set_option maxRecDepth 20000 in
theorem mc_X12_log : zMc yX12_log cX12_log 5 (some .int) 2 := ⟨zTbl_i 1384 rfl rfl, (zTbl_i 87 (by decide +kernel) (by decide +kernel)), by decide +kernel, by decide⟩
set_option maxRecDepth 20000 in
theorem mc_X12_meets : zMc yX12_meets cX12_meets 7 (some .boolean) 2 := ⟨zTbl_i 1268 rfl rfl, (zTbl_i 87 (by decide +kernel) (by decide +kernel)), by decide +kernel, by decide⟩
set_option maxRecDepth 20000 in
theorem mc_X12_newFailure : zMc yX12_newFailure cX12_newFailure 5 (some .int) 3 := ⟨zTbl_i 1276 rfl rfl, (zTbl_i 87 (by decide +kernel) (by decide +kernel)), by decide +kernel, by decide⟩
set_option maxRecDepth 20000 in
theorem mc_X12_newLoan : zMc yX12_newLoan cX12_newLoan 5 (some .int) 3 := ⟨zTbl_i 1308 rfl rfl, (zTbl_i 87 (by decide +kernel) (by decide +kernel)), by decide +kernel, by decide⟩
set_option maxRecDepth 20000 in
theorem mc_X12_noAct : zMc yX12_noAct cX12_noAct 2 (some .boolean) 1 := ⟨zTbl_i 1194 rfl rfl, (zTbl_i 87 (by decide +kernel) (by decide +kernel)), by decide +kernel, by decide⟩
set_option maxRecDepth 20000 in
theorem mc_X12_noPart : zMc yX12_noPart cX12_noPart 2 (some .boolean) 1 := ⟨zTbl_i 1164 rfl rfl, (zTbl_i 87 (by decide +kernel) (by decide +kernel)), by decide +kernel, by decide⟩
set_option maxRecDepth 20000 in
theorem mc_X12_outOfTry : zMc yX12_outOfTry cX12_outOfTry 4 none 0 := ⟨zTbl_i 1332 rfl rfl, (zTbl_i 87 (by decide +kernel) (by decide +kernel)), by decide +kernel, by decide⟩
set_option maxRecDepth 20000 in
theorem mc_X12_part : zMc yX12_part cX12_part 3 (some .int) 2 := ⟨zTbl_i 1151 rfl rfl, (zTbl_i 87 (by decide +kernel) (by decide +kernel)), by decide +kernel, by decide⟩
set_option maxRecDepth 20000 in
theorem mc_X12_plan : zMc yX12_plan cX12_plan 4 (some .int) 3 := ⟨zTbl_i 1177 rfl rfl, (zTbl_i 87 (by decide +kernel) (by decide +kernel)), by decide +kernel, by decide⟩
set_option maxRecDepth 20000 in
theorem mc_X12_plans : zMc yX12_plans cX12_plans 3 (some .int) 1 := ⟨zTbl_i 1182 rfl rfl, (zTbl_i 87 (by decide +kernel) (by decide +kernel)), by decide +kernel, by decide⟩
set_option maxRecDepth 20000 in
theorem mc_X12_ran : zMc yX12_ran cX12_ran 2 (some .int) 1 := ⟨zTbl_i 1354 rfl rfl, (zTbl_i 87 (by decide +kernel) (by decide +kernel)), by decide +kernel, by decide⟩
set_option maxRecDepth 20000 in
theorem mc_X12_run : zMc yX12_run cX12_run 5 (some .int) 2 := ⟨zTbl_i 1224 rfl rfl, (zTbl_i 87 (by decide +kernel) (by decide +kernel)), by decide +kernel, by decide⟩
set_option maxRecDepth 20000 in
theorem mc_X12_spend : zMc yX12_spend cX12_spend 4 none 0 := ⟨zTbl_i 1272 rfl rfl, (zTbl_i 87 (by decide +kernel) (by decide +kernel)), by decide +kernel, by decide⟩
set_option maxRecDepth 20000 in
theorem mc_X12_state : zMc yX12_state cX12_state 2 (some .int) 1 := ⟨zTbl_i 1160 rfl rfl, (zTbl_i 87 (by decide +kernel) (by decide +kernel)), by decide +kernel, by decide⟩
set_option maxRecDepth 20000 in
theorem mc_X12_step : zMc yX12_step cX12_step 1 (some .boolean) 0 := ⟨zTbl_i 1280 rfl rfl, (zTbl_i 87 (by decide +kernel) (by decide +kernel)), by decide +kernel, by decide⟩
set_option maxRecDepth 20000 in
theorem mc_X12_trace : zMc yX12_trace cX12_trace 4 none 1 := ⟨zTbl_i 1316 rfl rfl, (zTbl_i 87 (by decide +kernel) (by decide +kernel)), by decide +kernel, by decide⟩
set_option maxRecDepth 20000 in
theorem mc_X12_trace_ : zMc yX12_trace_ cX12_trace_ 4 (some .int) 3 := ⟨zTbl_i 1370 rfl rfl, (zTbl_i 87 (by decide +kernel) (by decide +kernel)), by decide +kernel, by decide⟩
set_option maxRecDepth 20000 in
theorem mc_X12_unwind : zMc yX12_unwind cX12_unwind 2 none 0 := ⟨zTbl_i 1328 rfl rfl, (zTbl_i 87 (by decide +kernel) (by decide +kernel)), by decide +kernel, by decide⟩
set_option maxRecDepth 20000 in
theorem mc_X12_wipe : zMc yX12_wipe cX12_wipe 3 (some .int) 1 := ⟨zTbl_i 1198 rfl rfl, (zTbl_i 87 (by decide +kernel) (by decide +kernel)), by decide +kernel, by decide⟩
set_option maxRecDepth 20000 in
theorem mc_X1_begin : zMc yX1_begin cX1_begin 5 none 3 := ⟨zTbl_i 629 rfl rfl, (zTbl_i 83 (by decide +kernel) (by decide +kernel)), by decide +kernel, by decide⟩
set_option maxRecDepth 20000 in
theorem mc_X1_in : zMc yX1_in cX1_in 2 (some (.object "HireScopes$Loan")) 1 := ⟨zTbl_i 846 rfl rfl, (zTbl_i 83 (by decide +kernel) (by decide +kernel)), by decide +kernel, by decide⟩
set_option maxRecDepth 20000 in
theorem mc_X1_init : zMc yX1_init cX1_init 2 none 1 := ⟨zTbl_i 269 rfl rfl, (zTbl_i 83 (by decide +kernel) (by decide +kernel)), by decide +kernel, by decide⟩
set_option maxRecDepth 20000 in
theorem mc_X1_put : zMc yX1_put cX1_put 3 none 2 := ⟨zTbl_i 828 rfl rfl, (zTbl_i 83 (by decide +kernel) (by decide +kernel)), by decide +kernel, by decide⟩
set_option maxRecDepth 20000 in
theorem mc_X2_add : zMc yX2_add cX2_add 5 (some .int) 4 := ⟨zTbl_i 706 rfl rfl, (zTbl_i 81 (by decide +kernel) (by decide +kernel)), by decide +kernel, by decide⟩
set_option maxRecDepth 20000 in
theorem mc_X2_giveCause : zMc yX2_giveCause cX2_giveCause 3 none 2 := ⟨zTbl_i 761 rfl rfl, (zTbl_i 81 (by decide +kernel) (by decide +kernel)), by decide +kernel, by decide⟩
set_option maxRecDepth 20000 in
theorem mc_X2_init : zMc yX2_init cX2_init 1 none 0 := ⟨zTbl_i 203 rfl rfl, (zTbl_i 81 (by decide +kernel) (by decide +kernel)), by decide +kernel, by decide⟩
set_option maxRecDepth 20000 in
theorem mc_X2_kindOf : zMc yX2_kindOf cX2_kindOf 2 (some .int) 1 := ⟨zTbl_i 735 rfl rfl, (zTbl_i 81 (by decide +kernel) (by decide +kernel)), by decide +kernel, by decide⟩
set_option maxRecDepth 20000 in
theorem mc_X2_suppress : zMc yX2_suppress cX2_suppress 3 none 2 := ⟨zTbl_i 711 rfl rfl, (zTbl_i 81 (by decide +kernel) (by decide +kernel)), by decide +kernel, by decide⟩
set_option maxRecDepth 20000 in
theorem mc_X2_told : zMc yX2_told cX2_told 3 (some .int) 2 := ⟨zTbl_i 895 rfl rfl, (zTbl_i 81 (by decide +kernel) (by decide +kernel)), by decide +kernel, by decide⟩
set_option maxRecDepth 20000 in
theorem mc_X3_charge : zMc yX3_charge cX3_charge 2 none 1 := ⟨zTbl_i 687 rfl rfl, (zTbl_i 77 (by decide +kernel) (by decide +kernel)), by decide +kernel, by decide⟩
set_option maxRecDepth 20000 in
theorem mc_X3_cleanFirst : zMc yX3_cleanFirst cX3_cleanFirst 5 (some .int) 1 := ⟨zTbl_i 514 rfl rfl, (zTbl_i 77 (by decide +kernel) (by decide +kernel)), by decide +kernel, by decide⟩
set_option maxRecDepth 20000 in
theorem mc_X3_deposit : zMc yX3_deposit cX3_deposit 6 (some .long) 1 := ⟨zTbl_i 926 rfl rfl, (zTbl_i 77 (by decide +kernel) (by decide +kernel)), by decide +kernel, by decide⟩
set_option maxRecDepth 20000 in
theorem mc_X3_find : zMc yX3_find cX3_find 2 (some (.object "HireScopes$Part")) 1 := ⟨zTbl_i 506 rfl rfl, (zTbl_i 77 (by decide +kernel) (by decide +kernel)), by decide +kernel, by decide⟩
set_option maxRecDepth 20000 in
theorem mc_X3_findHeld : zMc yX3_findHeld cX3_findHeld 2 (some (.object "HireScopes$Part")) 1 := ⟨zTbl_i 907 rfl rfl, (zTbl_i 77 (by decide +kernel) (by decide +kernel)), by decide +kernel, by decide⟩
set_option maxRecDepth 20000 in
theorem mc_X3_firstOnRack : zMc yX3_firstOnRack cX3_firstOnRack 4 (some (.object "HireScopes$Part")) 1 := ⟨zTbl_i 842 rfl rfl, (zTbl_i 77 (by decide +kernel) (by decide +kernel)), by decide +kernel, by decide⟩
set_option maxRecDepth 20000 in
theorem mc_X3_giveOut : zMc yX3_giveOut cX3_giveOut 4 none 3 := ⟨zTbl_i 811 rfl rfl, (zTbl_i 77 (by decide +kernel) (by decide +kernel)), by decide +kernel, by decide⟩
set_option maxRecDepth 20000 in
theorem mc_X3_holdNoMore : zMc yX3_holdNoMore cX3_holdNoMore 4 none 1 := ⟨zTbl_i 683 rfl rfl, (zTbl_i 77 (by decide +kernel) (by decide +kernel)), by decide +kernel, by decide⟩
set_option maxRecDepth 20000 in
theorem mc_X3_inCleaning : zMc yX3_inCleaning cX3_inCleaning 2 (some .int) 1 := ⟨zTbl_i 521 rfl rfl, (zTbl_i 77 (by decide +kernel) (by decide +kernel)), by decide +kernel, by decide⟩
set_option maxRecDepth 20000 in
theorem mc_X3_init : zMc yX3_init cX3_init 1 none 0 := ⟨zTbl_i 102 rfl rfl, (zTbl_i 77 (by decide +kernel) (by decide +kernel)), by decide +kernel, by decide⟩
set_option maxRecDepth 20000 in
theorem mc_X3_takeBack : zMc yX3_takeBack cX3_takeBack 4 (some .boolean) 2 := ⟨zTbl_i 675 rfl rfl, (zTbl_i 77 (by decide +kernel) (by decide +kernel)), by decide +kernel, by decide⟩
set_option maxRecDepth 20000 in
theorem mc_X3_takeIn : zMc yX3_takeIn cX3_takeIn 3 (some .int) 2 := ⟨zTbl_i 455 rfl rfl, (zTbl_i 77 (by decide +kernel) (by decide +kernel)), by decide +kernel, by decide⟩
set_option maxRecDepth 20000 in
theorem mc_X3_toCleaning : zMc yX3_toCleaning cX3_toCleaning 2 none 1 := ⟨zTbl_i 691 rfl rfl, (zTbl_i 77 (by decide +kernel) (by decide +kernel)), by decide +kernel, by decide⟩
set_option maxRecDepth 20000 in
theorem mc_X4_begin : zMc yX4_begin cX4_begin 4 none 3 := ⟨zTbl_i 820 rfl rfl, (zTbl_i 86 (by decide +kernel) (by decide +kernel)), by decide +kernel, by decide⟩
set_option maxRecDepth 20000 in
theorem mc_X4_close : zMc yX4_close cX4_close 1 none 0 := ⟨zTbl_i 667 rfl rfl, (zTbl_i 86 (by decide +kernel) (by decide +kernel)), by decide +kernel, by decide⟩
set_option maxRecDepth 20000 in
theorem mc_X4_init : zMc yX4_init cX4_init 1 none 0 := ⟨zTbl_i 344 rfl rfl, (zTbl_i 86 (by decide +kernel) (by decide +kernel)), by decide +kernel, by decide⟩
set_option maxRecDepth 20000 in
theorem mc_X4_leaveScope : zMc yX4_leaveScope cX4_leaveScope 1 none 0 := ⟨zTbl_i 671 rfl rfl, (zTbl_i 86 (by decide +kernel) (by decide +kernel)), by decide +kernel, by decide⟩
set_option maxRecDepth 20000 in
theorem mc_X4_moveTo : zMc yX4_moveTo cX4_moveTo 2 none 1 := ⟨zTbl_i 824 rfl rfl, (zTbl_i 86 (by decide +kernel) (by decide +kernel)), by decide +kernel, by decide⟩
set_option maxRecDepth 20000 in
theorem mc_X5_add : zMc yX5_add cX5_add 4 none 3 := ⟨zTbl_i 695 rfl rfl, (zTbl_i 79 (by decide +kernel) (by decide +kernel)), by decide +kernel, by decide⟩
set_option maxRecDepth 20000 in
theorem mc_X5_init : zMc yX5_init cX5_init 1 none 0 := ⟨zTbl_i 132 rfl rfl, (zTbl_i 79 (by decide +kernel) (by decide +kernel)), by decide +kernel, by decide⟩
set_option maxRecDepth 20000 in
theorem mc_X5_told : zMc yX5_told cX5_told 4 (some .int) 2 := ⟨zTbl_i 934 rfl rfl, (zTbl_i 79 (by decide +kernel) (by decide +kernel)), by decide +kernel, by decide⟩
set_option maxRecDepth 20000 in
theorem mc_X6_addToTrace : zMc yX6_addToTrace cX6_addToTrace 3 none 2 := ⟨zTbl_i 833 rfl rfl, (zTbl_i 88 (by decide +kernel) (by decide +kernel)), by decide +kernel, by decide⟩
set_option maxRecDepth 20000 in
theorem mc_X6_init : zMc yX6_init cX6_init 4 none 3 := ⟨zTbl_i 460 rfl rfl, (zTbl_i 88 (by decide +kernel) (by decide +kernel)), by decide +kernel, by decide⟩
set_option maxRecDepth 20000 in
theorem mc_X7_add : zMc yX7_add cX7_add 4 (some .int) 3 := ⟨zTbl_i 535 rfl rfl, (zTbl_i 78 (by decide +kernel) (by decide +kernel)), by decide +kernel, by decide⟩
set_option maxRecDepth 20000 in
theorem mc_X7_init : zMc yX7_init cX7_init 1 none 0 := ⟨zTbl_i 110 rfl rfl, (zTbl_i 78 (by decide +kernel) (by decide +kernel)), by decide +kernel, by decide⟩
set_option maxRecDepth 20000 in
theorem mc_X7_meets : zMc yX7_meets cX7_meets 6 (some .boolean) 2 := ⟨zTbl_i 679 rfl rfl, (zTbl_i 78 (by decide +kernel) (by decide +kernel)), by decide +kernel, by decide⟩
set_option maxRecDepth 20000 in
theorem mc_X8_beginBlock : zMc yX8_beginBlock cX8_beginBlock 4 none 3 := ⟨zTbl_i 875 rfl rfl, (zTbl_i 80 (by decide +kernel) (by decide +kernel)), by decide +kernel, by decide⟩
set_option maxRecDepth 20000 in
theorem mc_X8_beginWay : zMc yX8_beginWay cX8_beginWay 4 none 3 := ⟨zTbl_i 753 rfl rfl, (zTbl_i 80 (by decide +kernel) (by decide +kernel)), by decide +kernel, by decide⟩
set_option maxRecDepth 20000 in
theorem mc_X8_borrow : zMc yX8_borrow cX8_borrow 6 none 4 := ⟨zTbl_i 798 rfl rfl, (zTbl_i 80 (by decide +kernel) (by decide +kernel)), by decide +kernel, by decide⟩
set_option maxRecDepth 20000 in
theorem mc_X8_bringBack : zMc yX8_bringBack cX8_bringBack 4 none 2 := ⟨zTbl_i 858 rfl rfl, (zTbl_i 80 (by decide +kernel) (by decide +kernel)), by decide +kernel, by decide⟩
set_option maxRecDepth 20000 in
theorem mc_X8_callAct : zMc yX8_callAct cX8_callAct 5 none 3 := ⟨zTbl_i 870 rfl rfl, (zTbl_i 80 (by decide +kernel) (by decide +kernel)), by decide +kernel, by decide⟩
set_option maxRecDepth 20000 in
theorem mc_X8_doLine : zMc yX8_doLine cX8_doLine 5 none 2 := ⟨zTbl_i 789 rfl rfl, (zTbl_i 80 (by decide +kernel) (by decide +kernel)), by decide +kernel, by decide⟩
set_option maxRecDepth 20000 in
theorem mc_X8_endInnermost : zMc yX8_endInnermost cX8_endInnermost 4 none 0 := ⟨zTbl_i 659 rfl rfl, (zTbl_i 80 (by decide +kernel) (by decide +kernel)), by decide +kernel, by decide⟩
set_option maxRecDepth 20000 in
theorem mc_X8_endLastWay : zMc yX8_endLastWay cX8_endLastWay 3 none 2 := ⟨zTbl_i 785 rfl rfl, (zTbl_i 80 (by decide +kernel) (by decide +kernel)), by decide +kernel, by decide⟩
set_option maxRecDepth 20000 in
theorem mc_X8_endScopeBlock : zMc yX8_endScopeBlock cX8_endScopeBlock 2 none 1 := ⟨zTbl_i 655 rfl rfl, (zTbl_i 80 (by decide +kernel) (by decide +kernel)), by decide +kernel, by decide⟩
set_option maxRecDepth 20000 in
theorem mc_X8_endTurn : zMc yX8_endTurn cX8_endTurn 3 none 2 := ⟨zTbl_i 781 rfl rfl, (zTbl_i 80 (by decide +kernel) (by decide +kernel)), by decide +kernel, by decide⟩
set_option maxRecDepth 20000 in
theorem mc_X8_enter : zMc yX8_enter cX8_enter 4 none 3 := ⟨zTbl_i 625 rfl rfl, (zTbl_i 80 (by decide +kernel) (by decide +kernel)), by decide +kernel, by decide⟩
set_option maxRecDepth 20000 in
theorem mc_X8_fail : zMc yX8_fail cX8_fail 5 none 3 := ⟨zTbl_i 803 rfl rfl, (zTbl_i 80 (by decide +kernel) (by decide +kernel)), by decide +kernel, by decide⟩
set_option maxRecDepth 20000 in
theorem mc_X8_failAtEnd : zMc yX8_failAtEnd cX8_failAtEnd 4 none 2 := ⟨zTbl_i 702 rfl rfl, (zTbl_i 80 (by decide +kernel) (by decide +kernel)), by decide +kernel, by decide⟩
set_option maxRecDepth 20000 in
theorem mc_X8_giveUp : zMc yX8_giveUp cX8_giveUp 6 (some .boolean) 2 := ⟨zTbl_i 663 rfl rfl, (zTbl_i 80 (by decide +kernel) (by decide +kernel)), by decide +kernel, by decide⟩
set_option maxRecDepth 20000 in
theorem mc_X8_hire : zMc yX8_hire cX8_hire 6 none 4 := ⟨zTbl_i 807 rfl rfl, (zTbl_i 80 (by decide +kernel) (by decide +kernel)), by decide +kernel, by decide⟩
set_option maxRecDepth 20000 in
theorem mc_X8_init : zMc yX8_init cX8_init 5 none 2 := ⟨zTbl_i 189 rfl rfl, (zTbl_i 80 (by decide +kernel) (by decide +kernel)), by decide +kernel, by decide⟩
set_option maxRecDepth 20000 in
theorem mc_X8_leave : zMc yX8_leave cX8_leave 3 none 1 := ⟨zTbl_i 651 rfl rfl, (zTbl_i 80 (by decide +kernel) (by decide +kernel)), by decide +kernel, by decide⟩
set_option maxRecDepth 20000 in
theorem mc_X8_leaveAct : zMc yX8_leaveAct cX8_leaveAct 1 none 0 := ⟨zTbl_i 773 rfl rfl, (zTbl_i 80 (by decide +kernel) (by decide +kernel)), by decide +kernel, by decide⟩
set_option maxRecDepth 20000 in
theorem mc_X8_leaveLastWay : zMc yX8_leaveLastWay cX8_leaveLastWay 2 none 1 := ⟨zTbl_i 731 rfl rfl, (zTbl_i 80 (by decide +kernel) (by decide +kernel)), by decide +kernel, by decide⟩
set_option maxRecDepth 20000 in
theorem mc_X8_leaveLoop : zMc yX8_leaveLoop cX8_leaveLoop 3 none 2 := ⟨zTbl_i 719 rfl rfl, (zTbl_i 80 (by decide +kernel) (by decide +kernel)), by decide +kernel, by decide⟩
set_option maxRecDepth 20000 in
theorem mc_X8_leaveTry : zMc yX8_leaveTry cX8_leaveTry 4 none 2 := ⟨zTbl_i 727 rfl rfl, (zTbl_i 80 (by decide +kernel) (by decide +kernel)), by decide +kernel, by decide⟩
set_option maxRecDepth 20000 in
theorem mc_X8_leaveWay : zMc yX8_leaveWay cX8_leaveWay 4 none 2 := ⟨zTbl_i 765 rfl rfl, (zTbl_i 80 (by decide +kernel) (by decide +kernel)), by decide +kernel, by decide⟩
set_option maxRecDepth 20000 in
theorem mc_X8_lendOn : zMc yX8_lendOn cX8_lendOn 5 none 3 := ⟨zTbl_i 862 rfl rfl, (zTbl_i 80 (by decide +kernel) (by decide +kernel)), by decide +kernel, by decide⟩
set_option maxRecDepth 20000 in
theorem mc_X8_makeLoan : zMc yX8_makeLoan cX8_makeLoan 7 none 5 := ⟨zTbl_i 815 rfl rfl, (zTbl_i 80 (by decide +kernel) (by decide +kernel)), by decide +kernel, by decide⟩
set_option maxRecDepth 20000 in
theorem mc_X8_misuseOf : zMc yX8_misuseOf cX8_misuseOf 2 (some .int) 2 := ⟨zTbl_i 853 rfl rfl, (zTbl_i 80 (by decide +kernel) (by decide +kernel)), by decide +kernel, by decide⟩
set_option maxRecDepth 20000 in
theorem mc_X8_openScope : zMc yX8_openScope cX8_openScope 3 none 2 := ⟨zTbl_i 641 rfl rfl, (zTbl_i 80 (by decide +kernel) (by decide +kernel)), by decide +kernel, by decide⟩
set_option maxRecDepth 20000 in
theorem mc_X8_partOf : zMc yX8_partOf cX8_partOf 1 (some .int) 1 := ⟨zTbl_i 698 rfl rfl, (zTbl_i 80 (by decide +kernel) (by decide +kernel)), by decide +kernel, by decide⟩
set_option maxRecDepth 20000 in
theorem mc_X8_passOn : zMc yX8_passOn cX8_passOn 5 none 3 := ⟨zTbl_i 866 rfl rfl, (zTbl_i 80 (by decide +kernel) (by decide +kernel)), by decide +kernel, by decide⟩
set_option maxRecDepth 20000 in
theorem mc_X8_perform : zMc yX8_perform cX8_perform 6 (some .int) 2 := ⟨zTbl_i 616 rfl rfl, (zTbl_i 80 (by decide +kernel) (by decide +kernel)), by decide +kernel, by decide⟩
set_option maxRecDepth 20000 in
theorem mc_X8_pop : zMc yX8_pop cX8_pop 1 none 0 := ⟨zTbl_i 715 rfl rfl, (zTbl_i 80 (by decide +kernel) (by decide +kernel)), by decide +kernel, by decide⟩
set_option maxRecDepth 20000 in
theorem mc_X8_push : zMc yX8_push cX8_push 4 none 3 := ⟨zTbl_i 633 rfl rfl, (zTbl_i 80 (by decide +kernel) (by decide +kernel)), by decide +kernel, by decide⟩
set_option maxRecDepth 20000 in
theorem mc_X8_reachMark : zMc yX8_reachMark cX8_reachMark 3 none 1 := ⟨zTbl_i 777 rfl rfl, (zTbl_i 80 (by decide +kernel) (by decide +kernel)), by decide +kernel, by decide⟩
set_option maxRecDepth 20000 in
theorem mc_X8_reset : zMc yX8_reset cX8_reset 2 none 1 := ⟨zTbl_i 620 rfl rfl, (zTbl_i 80 (by decide +kernel) (by decide +kernel)), by decide +kernel, by decide⟩
set_option maxRecDepth 20000 in
theorem mc_X8_spend : zMc yX8_spend cX8_spend 3 none 0 := ⟨zTbl_i 879 rfl rfl, (zTbl_i 80 (by decide +kernel) (by decide +kernel)), by decide +kernel, by decide⟩
set_option maxRecDepth 20000 in
theorem mc_X8_step : zMc yX8_step cX8_step 1 (some .boolean) 0 := ⟨zTbl_i 757 rfl rfl, (zTbl_i 80 (by decide +kernel) (by decide +kernel)), by decide +kernel, by decide⟩
set_option maxRecDepth 20000 in
theorem mc_X8_take : zMc yX8_take cX8_take 5 none 3 := ⟨zTbl_i 838 rfl rfl, (zTbl_i 80 (by decide +kernel) (by decide +kernel)), by decide +kernel, by decide⟩
set_option maxRecDepth 20000 in
theorem mc_X8_told : zMc yX8_told cX8_told 2 (some .int) 1 := ⟨zTbl_i 887 rfl rfl, (zTbl_i 80 (by decide +kernel) (by decide +kernel)), by decide +kernel, by decide⟩
set_option maxRecDepth 20000 in
theorem mc_X8_use : zMc yX8_use cX8_use 4 none 2 := ⟨zTbl_i 850 rfl rfl, (zTbl_i 80 (by decide +kernel) (by decide +kernel)), by decide +kernel, by decide⟩
set_option maxRecDepth 20000 in
theorem mc_X9_begin : zMc yX9_begin cX9_begin 3 none 2 := ⟨zTbl_i 645 rfl rfl, (zTbl_i 85 (by decide +kernel) (by decide +kernel)), by decide +kernel, by decide⟩
set_option maxRecDepth 20000 in
theorem mc_X9_init : zMc yX9_init cX9_init 1 none 0 := ⟨zTbl_i 325 rfl rfl, (zTbl_i 85 (by decide +kernel) (by decide +kernel)), by decide +kernel, by decide⟩
theorem mi_X0_init : yX0_init.name = "<init>" ∧ Cond.instanceMethod yX0_init ∈ zTbl := ⟨rfl, (zTbl_i 290 (by decide +kernel) (by decide +kernel))⟩
theorem mi_X10_init : yX10_init.name = "<init>" ∧ Cond.instanceMethod yX10_init ∈ zTbl := ⟨rfl, (zTbl_i 232 (by decide +kernel) (by decide +kernel))⟩
theorem mi_X11_init : yX11_init.name = "<init>" ∧ Cond.instanceMethod yX11_init ∈ zTbl := ⟨rfl, (zTbl_i 93 (by decide +kernel) (by decide +kernel))⟩
theorem mi_X12_init : yX12_init.name = "<init>" ∧ Cond.instanceMethod yX12_init ∈ zTbl := ⟨rfl, (zTbl_i 939 (by decide +kernel) (by decide +kernel))⟩
theorem mi_X1_init : yX1_init.name = "<init>" ∧ Cond.instanceMethod yX1_init ∈ zTbl := ⟨rfl, (zTbl_i 268 (by decide +kernel) (by decide +kernel))⟩
theorem mi_X2_init : yX2_init.name = "<init>" ∧ Cond.instanceMethod yX2_init ∈ zTbl := ⟨rfl, (zTbl_i 202 (by decide +kernel) (by decide +kernel))⟩
theorem mi_X3_init : yX3_init.name = "<init>" ∧ Cond.instanceMethod yX3_init ∈ zTbl := ⟨rfl, (zTbl_i 101 (by decide +kernel) (by decide +kernel))⟩
theorem mi_X4_init : yX4_init.name = "<init>" ∧ Cond.instanceMethod yX4_init ∈ zTbl := ⟨rfl, (zTbl_i 343 (by decide +kernel) (by decide +kernel))⟩
theorem mi_X5_init : yX5_init.name = "<init>" ∧ Cond.instanceMethod yX5_init ∈ zTbl := ⟨rfl, (zTbl_i 131 (by decide +kernel) (by decide +kernel))⟩
theorem mi_X6_init : yX6_init.name = "<init>" ∧ Cond.instanceMethod yX6_init ∈ zTbl := ⟨rfl, (zTbl_i 459 (by decide +kernel) (by decide +kernel))⟩
theorem mi_X7_init : yX7_init.name = "<init>" ∧ Cond.instanceMethod yX7_init ∈ zTbl := ⟨rfl, (zTbl_i 109 (by decide +kernel) (by decide +kernel))⟩
theorem mi_X8_init : yX8_init.name = "<init>" ∧ Cond.instanceMethod yX8_init ∈ zTbl := ⟨rfl, (zTbl_i 188 (by decide +kernel) (by decide +kernel))⟩
theorem mi_X9_init : yX9_init.name = "<init>" ∧ Cond.instanceMethod yX9_init ∈ zTbl := ⟨rfl, (zTbl_i 324 (by decide +kernel) (by decide +kernel))⟩
theorem ml_L_12 : zML RL 12 yX12_init := Or.inl (zTbl_i 938 (by decide +kernel) (by decide +kernel))
theorem ml_L_13 : zML RL 13 yX11_part := Or.inl (zTbl_i 444 (by decide +kernel) (by decide +kernel))
theorem ml_L_17 : zML RL 17 yX12_part := Or.inl (zTbl_i 1148 (by decide +kernel) (by decide +kernel))
theorem ml_L_18 : zML RL 18 yX11_state := Or.inl (zTbl_i 499 (by decide +kernel) (by decide +kernel))
theorem ml_L_22 : zML RL 22 yX12_state := Or.inl (zTbl_i 1157 (by decide +kernel) (by decide +kernel))
theorem ml_L_23 : zML RL 23 yX11_clean := Or.inl (zTbl_i 507 (by decide +kernel) (by decide +kernel))
theorem ml_L_26 : zML RL 26 yX12_clean := Or.inl (zTbl_i 1165 (by decide +kernel) (by decide +kernel))
theorem ml_L_27 : zML RL 27 yX11_cleaning := Or.inl (zTbl_i 523 (by decide +kernel) (by decide +kernel))
theorem ml_L_30 : zML RL 30 yX12_cleaning := Or.inl (zTbl_i 1170 (by decide +kernel) (by decide +kernel))
theorem ml_L_31 : zML RL 31 yX11_plan := Or.inl (zTbl_i 528 (by decide +kernel) (by decide +kernel))
theorem ml_L_35 : zML RL 35 yX12_plan := Or.inl (zTbl_i 1174 (by decide +kernel) (by decide +kernel))
theorem ml_L_36 : zML RL 36 yX11_plans := Or.inl (zTbl_i 537 (by decide +kernel) (by decide +kernel))
theorem ml_L_40 : zML RL 40 yX12_plans := Or.inl (zTbl_i 1179 (by decide +kernel) (by decide +kernel))
theorem ml_L_41 : zML RL 41 yX11_act := Or.inl (zTbl_i 541 (by decide +kernel) (by decide +kernel))
theorem ml_L_45 : zML RL 45 yX12_act := Or.inl (zTbl_i 1183 (by decide +kernel) (by decide +kernel))
theorem ml_L_46 : zML RL 46 yX11_line := Or.inl (zTbl_i 546 (by decide +kernel) (by decide +kernel))
theorem ml_L_50 : zML RL 50 yX12_line := Or.inl (zTbl_i 1187 (by decide +kernel) (by decide +kernel))
theorem ml_L_51 : zML RL 51 yX11_wipe := Or.inl (zTbl_i 589 (by decide +kernel) (by decide +kernel))
theorem ml_L_54 : zML RL 54 yX12_wipe := Or.inl (zTbl_i 1195 (by decide +kernel) (by decide +kernel))
theorem ml_L_55 : zML RL 55 yX11_fault := Or.inl (zTbl_i 597 (by decide +kernel) (by decide +kernel))
theorem ml_L_58 : zML RL 58 yX12_fault := Or.inl (zTbl_i 1199 (by decide +kernel) (by decide +kernel))
theorem ml_L_59 : zML RL 59 yX11_run := Or.inl (zTbl_i 609 (by decide +kernel) (by decide +kernel))
theorem ml_L_62 : zML RL 62 yX12_run := Or.inl (zTbl_i 1221 (by decide +kernel) (by decide +kernel))
theorem ml_L_63 : zML RL 63 yX11_ran := Or.inl (zTbl_i 880 (by decide +kernel) (by decide +kernel))
theorem ml_L_66 : zML RL 66 yX12_ran := Or.inl (zTbl_i 1351 (by decide +kernel) (by decide +kernel))
theorem ml_L_67 : zML RL 67 yX11_failure := Or.inl (zTbl_i 888 (by decide +kernel) (by decide +kernel))
theorem ml_L_70 : zML RL 70 yX12_failure := Or.inl (zTbl_i 1355 (by decide +kernel) (by decide +kernel))
theorem ml_L_71 : zML RL 71 yX11_leaks := Or.inl (zTbl_i 896 (by decide +kernel) (by decide +kernel))
theorem ml_L_74 : zML RL 74 yX12_leaks := Or.inl (zTbl_i 1359 (by decide +kernel) (by decide +kernel))
theorem ml_L_75 : zML RL 75 yX11_leak := Or.inl (zTbl_i 900 (by decide +kernel) (by decide +kernel))
theorem ml_L_78 : zML RL 78 yX12_leak := Or.inl (zTbl_i 1363 (by decide +kernel) (by decide +kernel))
theorem ml_L_79 : zML RL 79 yX11_trace := Or.inl (zTbl_i 908 (by decide +kernel) (by decide +kernel))
theorem ml_L_82 : zML RL 82 yX12_trace_ := Or.inl (zTbl_i 1367 (by decide +kernel) (by decide +kernel))
theorem ml_L_83 : zML RL 83 yX11_giveBack := Or.inl (zTbl_i 912 (by decide +kernel) (by decide +kernel))
theorem ml_L_86 : zML RL 86 yX12_giveBack_ := Or.inl (zTbl_i 1371 (by decide +kernel) (by decide +kernel))
theorem ml_L_87 : zML RL 87 yX11_cents := Or.inl (zTbl_i 917 (by decide +kernel) (by decide +kernel))
theorem ml_L_9 : zML RL 9 yX11_init := Or.inl (zTbl_i 92 (by decide +kernel) (by decide +kernel))
theorem ml_L_91 : zML RL 91 yX12_cents := Or.inl (zTbl_i 1375 (by decide +kernel) (by decide +kernel))
theorem ml_L_92 : zML RL 92 yX11_log := Or.inl (zTbl_i 927 (by decide +kernel) (by decide +kernel))
theorem ml_L_95 : zML RL 95 yX12_log := Or.inl (zTbl_i 1381 (by decide +kernel) (by decide +kernel))
theorem ml_X10_34 : zML RX10 34 yX11_within := Or.inr ⟨"HireScopes", List.mem_of_getElem? (i := 557) (by decide +kernel)⟩
theorem ml_X10_41 : zML RX10 41 yX10_faultOf := Or.inl (zTbl_i 558 (by decide +kernel) (by decide +kernel))
theorem ml_X10_48 : zML RX10 48 yX10_place := Or.inl (zTbl_i 581 (by decide +kernel) (by decide +kernel))
theorem ml_X10_58 : zML RX10 58 yX10_fits := Or.inl (zTbl_i 564 (by decide +kernel) (by decide +kernel))
theorem ml_X10_64 : zML RX10 64 yX10_takesWays := Or.inl (zTbl_i 569 (by decide +kernel) (by decide +kernel))
theorem ml_X10_68 : zML RX10 68 yX10_isInLoop := Or.inl (zTbl_i 577 (by decide +kernel) (by decide +kernel))
theorem ml_X10_71 : zML RX10 71 yX10_opAt := Or.inl (zTbl_i 573 (by decide +kernel) (by decide +kernel))
theorem ml_X10_75 : zML RX10 75 yX10_linkMark := Or.inl (zTbl_i 585 (by decide +kernel) (by decide +kernel))
theorem ml_X10_78 : zML RX10 78 yX10_nextOf := Or.inl (zTbl_i 740 (by decide +kernel) (by decide +kernel))
theorem ml_X10_81 : zML RX10 81 yX10_aAt := Or.inl (zTbl_i 741 (by decide +kernel) (by decide +kernel))
theorem ml_X10_84 : zML RX10 84 yX11_isUnder := Or.inr ⟨"HireScopes", List.mem_of_getElem? (i := 745) (by decide +kernel)⟩
theorem ml_X11_102 : zML RX11 102 yX2_told := Or.inl (zTbl_i 892 (by decide +kernel) (by decide +kernel))
theorem ml_X11_107 : zML RX11 107 yX3_findHeld := Or.inl (zTbl_i 904 (by decide +kernel) (by decide +kernel))
theorem ml_X11_11 : zML RX11 11 yX3_init := Or.inr ⟨"HireScopes", List.mem_of_getElem? (i := 100) (by decide +kernel)⟩
theorem ml_X11_126 : zML RX11 126 yX3_takeBack := Or.inl (zTbl_i 916 (by decide +kernel) (by decide +kernel))
theorem ml_X11_134 : zML RX11 134 yX3_deposit := Or.inl (zTbl_i 923 (by decide +kernel) (by decide +kernel))
theorem ml_X11_146 : zML RX11 146 yX5_told := Or.inl (zTbl_i 931 (by decide +kernel) (by decide +kernel))
theorem ml_X11_24 : zML RX11 24 yX8_init := Or.inl (zTbl_i 187 (by decide +kernel) (by decide +kernel))
theorem ml_X11_31 : zML RX11 31 yX11_within := Or.inl (zTbl_i 448 (by decide +kernel) (by decide +kernel))
theorem ml_X11_36 : zML RX11 36 yX3_takeIn := Or.inl (zTbl_i 452 (by decide +kernel) (by decide +kernel))
theorem ml_X11_40 : zML RX11 40 yX3_find := Or.inl (zTbl_i 503 (by decide +kernel) (by decide +kernel))
theorem ml_X11_50 : zML RX11 50 yX3_cleanFirst := Or.inl (zTbl_i 511 (by decide +kernel) (by decide +kernel))
theorem ml_X11_54 : zML RX11 54 yX3_inCleaning := Or.inl (zTbl_i 527 (by decide +kernel) (by decide +kernel))
theorem ml_X11_61 : zML RX11 61 yX7_add := Or.inl (zTbl_i 532 (by decide +kernel) (by decide +kernel))
theorem ml_X11_73 : zML RX11 73 yX10_init := Or.inr ⟨"HireScopes", List.mem_of_getElem? (i := 545) (by decide +kernel)⟩
theorem ml_X11_74 : zML RX11 74 yX11_findScript := Or.inl (zTbl_i 550 (by decide +kernel) (by decide +kernel))
theorem ml_X11_78 : zML RX11 78 yX10_add := Or.inl (zTbl_i 553 (by decide +kernel) (by decide +kernel))
theorem ml_X11_79 : zML RX11 79 yX10_clear := Or.inl (zTbl_i 593 (by decide +kernel) (by decide +kernel))
theorem ml_X11_83 : zML RX11 83 yX10_faultNumber := Or.inl (zTbl_i 601 (by decide +kernel) (by decide +kernel))
theorem ml_X11_86 : zML RX11 86 yX10_faultLine := Or.inl (zTbl_i 605 (by decide +kernel) (by decide +kernel))
theorem ml_X11_89 : zML RX11 89 yX8_perform := Or.inl (zTbl_i 613 (by decide +kernel) (by decide +kernel))
theorem ml_X11_92 : zML RX11 92 yX8_told := Or.inl (zTbl_i 884 (by decide +kernel) (by decide +kernel))
theorem ml_X12_147 : zML RX12 147 yX12_in := Or.inl (zTbl_i 1153 (by decide +kernel) (by decide +kernel))
theorem ml_X12_156 : zML RX12 156 yX12_noPart := Or.inl (zTbl_i 1161 (by decide +kernel) (by decide +kernel))
theorem ml_X12_170 : zML RX12 170 yX12_meets := Or.inl (zTbl_i 1265 (by decide +kernel) (by decide +kernel))
theorem ml_X12_180 : zML RX12 180 yX12_noAct := Or.inl (zTbl_i 1191 (by decide +kernel) (by decide +kernel))
theorem ml_X12_185 : zML RX12 185 yX12_isSlot := Or.inl (zTbl_i 1210 (by decide +kernel) (by decide +kernel))
theorem ml_X12_202 : zML RX12 202 yX12_isWrong := Or.inl (zTbl_i 1207 (by decide +kernel) (by decide +kernel))
theorem ml_X12_206 : zML RX12 206 yX12_begins := Or.inl (zTbl_i 1218 (by decide +kernel) (by decide +kernel))
theorem ml_X12_209 : zML RX12 209 yX12_judge := Or.inl (zTbl_i 1203 (by decide +kernel) (by decide +kernel))
theorem ml_X12_213 : zML RX12 213 yX12_behind := Or.inl (zTbl_i 1289 (by decide +kernel) (by decide +kernel))
theorem ml_X12_226 : zML RX12 226 yX12_begin := Or.inl (zTbl_i 1229 (by decide +kernel) (by decide +kernel))
theorem ml_X12_230 : zML RX12 230 yX12_goTo := Or.inl (zTbl_i 1233 (by decide +kernel) (by decide +kernel))
theorem ml_X12_233 : zML RX12 233 yX12_beginScope := Or.inl (zTbl_i 1237 (by decide +kernel) (by decide +kernel))
theorem ml_X12_242 : zML RX12 242 yX12_spend := Or.inl (zTbl_i 1269 (by decide +kernel) (by decide +kernel))
theorem ml_X12_248 : zML RX12 248 yX12_newFailure := Or.inl (zTbl_i 1273 (by decide +kernel) (by decide +kernel))
theorem ml_X12_264 : zML RX12 264 yX12_comesBack := Or.inl (zTbl_i 1261 (by decide +kernel) (by decide +kernel))
theorem ml_X12_274 : zML RX12 274 yX12_lastOf := Or.inl (zTbl_i 1253 (by decide +kernel) (by decide +kernel))
theorem ml_X12_278 : zML RX12 278 yX12_giveBack := Or.inl (zTbl_i 1257 (by decide +kernel) (by decide +kernel))
theorem ml_X12_284 : zML RX12 284 yX12_above := Or.inl (zTbl_i 1340 (by decide +kernel) (by decide +kernel))
theorem ml_X12_287 : zML RX12 287 yX12_isUnder := Or.inl (zTbl_i 1337 (by decide +kernel) (by decide +kernel))
theorem ml_X12_290 : zML RX12 290 yX12_finishOf := Or.inl (zTbl_i 1285 (by decide +kernel) (by decide +kernel))
theorem ml_X12_293 : zML RX12 293 yX12_step := Or.inl (zTbl_i 1277 (by decide +kernel) (by decide +kernel))
theorem ml_X12_297 : zML RX12 297 yX12_endOf := Or.inl (zTbl_i 1293 (by decide +kernel) (by decide +kernel))
theorem ml_X12_303 : zML RX12 303 yX12_guardOf := Or.inl (zTbl_i 1333 (by decide +kernel) (by decide +kernel))
theorem ml_X12_306 : zML RX12 306 yX12_leaveTry := Or.inl (zTbl_i 1281 (by decide +kernel) (by decide +kernel))
theorem ml_X12_309 : zML RX12 309 yX12_endScope := Or.inl (zTbl_i 1249 (by decide +kernel) (by decide +kernel))
theorem ml_X12_312 : zML RX12 312 yX12_outOfTry := Or.inl (zTbl_i 1329 (by decide +kernel) (by decide +kernel))
theorem ml_X12_315 : zML RX12 315 yX12_endAct := Or.inl (zTbl_i 1343 (by decide +kernel) (by decide +kernel))
theorem ml_X12_318 : zML RX12 318 yX12_findAct := Or.inl (zTbl_i 1347 (by decide +kernel) (by decide +kernel))
theorem ml_X12_321 : zML RX12 321 yX12_innermost := Or.inl (zTbl_i 1309 (by decide +kernel) (by decide +kernel))
theorem ml_X12_330 : zML RX12 330 yX12_fail := Or.inl (zTbl_i 1301 (by decide +kernel) (by decide +kernel))
theorem ml_X12_333 : zML RX12 333 yX12_newLoan := Or.inl (zTbl_i 1305 (by decide +kernel) (by decide +kernel))
theorem ml_X12_336 : zML RX12 336 yX12_trace := Or.inl (zTbl_i 1313 (by decide +kernel) (by decide +kernel))
theorem ml_X12_339 : zML RX12 339 yX12_doSlot := Or.inl (zTbl_i 1317 (by decide +kernel) (by decide +kernel))
theorem ml_X12_343 : zML RX12 343 yX12_beginAct := Or.inl (zTbl_i 1225 (by decide +kernel) (by decide +kernel))
theorem ml_X12_347 : zML RX12 347 yX12_hasOpen := Or.inl (zTbl_i 1321 (by decide +kernel) (by decide +kernel))
theorem ml_X12_350 : zML RX12 350 yX12_endBlock := Or.inl (zTbl_i 1245 (by decide +kernel) (by decide +kernel))
theorem ml_X12_353 : zML RX12 353 yX12_doLine := Or.inl (zTbl_i 1297 (by decide +kernel) (by decide +kernel))
theorem ml_X12_356 : zML RX12 356 yX12_goOn := Or.inl (zTbl_i 1241 (by decide +kernel) (by decide +kernel))
theorem ml_X12_359 : zML RX12 359 yX12_unwind := Or.inl (zTbl_i 1325 (by decide +kernel) (by decide +kernel))
theorem ml_X1_28 : zML RX1 28 yX11_within := Or.inr ⟨"HireScopes", List.mem_of_getElem? (i := 829) (by decide +kernel)⟩
theorem ml_X2_34 : zML RX2 34 yX11_within := Or.inr ⟨"HireScopes", List.mem_of_getElem? (i := 707) (by decide +kernel)⟩
theorem ml_X3_101 : zML RX3 101 yX5_add := Or.inl (zTbl_i 692 (by decide +kernel) (by decide +kernel))
theorem ml_X3_30 : zML RX3 30 yX7_init := Or.inr ⟨"HireScopes", List.mem_of_getElem? (i := 108) (by decide +kernel)⟩
theorem ml_X3_37 : zML RX3 37 yX5_init := Or.inr ⟨"HireScopes", List.mem_of_getElem? (i := 130) (by decide +kernel)⟩
theorem ml_X3_46 : zML RX3 46 yX11_within := Or.inr ⟨"HireScopes", List.mem_of_getElem? (i := 456) (by decide +kernel)⟩
theorem ml_X3_53 : zML RX3 53 yX3_find := Or.inl (zTbl_i 522 (by decide +kernel) (by decide +kernel))
theorem ml_X3_60 : zML RX3 60 yX6_init := Or.inl (zTbl_i 458 (by decide +kernel) (by decide +kernel))
theorem ml_X3_75 : zML RX3 75 yX3_inCleaning := Or.inl (zTbl_i 518 (by decide +kernel) (by decide +kernel))
theorem ml_X3_88 : zML RX3 88 yX7_meets := Or.inl (zTbl_i 676 (by decide +kernel) (by decide +kernel))
theorem ml_X3_91 : zML RX3 91 yX3_holdNoMore := Or.inl (zTbl_i 680 (by decide +kernel) (by decide +kernel))
theorem ml_X3_95 : zML RX3 95 yX3_charge := Or.inl (zTbl_i 684 (by decide +kernel) (by decide +kernel))
theorem ml_X3_98 : zML RX3 98 yX3_toCleaning := Or.inl (zTbl_i 688 (by decide +kernel) (by decide +kernel))
theorem ml_X4_38 : zML RX4 38 yX4_leaveScope := Or.inl (zTbl_i 668 (by decide +kernel) (by decide +kernel))
theorem ml_X5_28 : zML RX5 28 yX11_within := Or.inr ⟨"HireScopes", List.mem_of_getElem? (i := 935) (by decide +kernel)⟩
theorem ml_X6_31 : zML RX6 31 yX11_within := Or.inr ⟨"HireScopes", List.mem_of_getElem? (i := 834) (by decide +kernel)⟩
theorem ml_X7_25 : zML RX7 25 yX11_within := Or.inr ⟨"HireScopes", List.mem_of_getElem? (i := 536) (by decide +kernel)⟩
theorem ml_X8_107 : zML RX8 107 yX10_opAt := Or.inl (zTbl_i 647 (by decide +kernel) (by decide +kernel))
theorem ml_X8_111 : zML RX8 111 yX8_leave := Or.inl (zTbl_i 648 (by decide +kernel) (by decide +kernel))
theorem ml_X8_115 : zML RX8 115 yX8_reachMark := Or.inl (zTbl_i 774 (by decide +kernel) (by decide +kernel))
theorem ml_X8_118 : zML RX8 118 yX8_step := Or.inl (zTbl_i 754 (by decide +kernel) (by decide +kernel))
theorem ml_X8_122 : zML RX8 122 yX8_doLine := Or.inl (zTbl_i 786 (by decide +kernel) (by decide +kernel))
theorem ml_X8_126 : zML RX8 126 yX8_spend := Or.inl (zTbl_i 876 (by decide +kernel) (by decide +kernel))
theorem ml_X8_138 : zML RX8 138 yX1_begin := Or.inl (zTbl_i 626 (by decide +kernel) (by decide +kernel))
theorem ml_X8_141 : zML RX8 141 yX8_push := Or.inl (zTbl_i 630 (by decide +kernel) (by decide +kernel))
theorem ml_X8_145 : zML RX8 145 yX8_openScope := Or.inl (zTbl_i 638 (by decide +kernel) (by decide +kernel))
theorem ml_X8_149 : zML RX8 149 yX0_begin := Or.inl (zTbl_i 634 (by decide +kernel) (by decide +kernel))
theorem ml_X8_151 : zML RX8 151 yX9_begin := Or.inl (zTbl_i 642 (by decide +kernel) (by decide +kernel))
theorem ml_X8_153 : zML RX8 153 yX10_aAt := Or.inl (zTbl_i 790 (by decide +kernel) (by decide +kernel))
theorem ml_X8_156 : zML RX8 156 yX10_bAt := Or.inl (zTbl_i 791 (by decide +kernel) (by decide +kernel))
theorem ml_X8_159 : zML RX8 159 yX8_borrow := Or.inl (zTbl_i 795 (by decide +kernel) (by decide +kernel))
theorem ml_X8_163 : zML RX8 163 yX8_take := Or.inl (zTbl_i 835 (by decide +kernel) (by decide +kernel))
theorem ml_X8_167 : zML RX8 167 yX1_in := Or.inl (zTbl_i 843 (by decide +kernel) (by decide +kernel))
theorem ml_X8_171 : zML RX8 171 yX8_use := Or.inl (zTbl_i 847 (by decide +kernel) (by decide +kernel))
theorem ml_X8_175 : zML RX8 175 yX8_bringBack := Or.inl (zTbl_i 855 (by decide +kernel) (by decide +kernel))
theorem ml_X8_178 : zML RX8 178 yX8_lendOn := Or.inl (zTbl_i 859 (by decide +kernel) (by decide +kernel))
theorem ml_X8_182 : zML RX8 182 yX8_passOn := Or.inl (zTbl_i 863 (by decide +kernel) (by decide +kernel))
theorem ml_X8_185 : zML RX8 185 yX8_callAct := Or.inl (zTbl_i 867 (by decide +kernel) (by decide +kernel))
theorem ml_X8_189 : zML RX8 189 yX8_fail := Or.inl (zTbl_i 800 (by decide +kernel) (by decide +kernel))
theorem ml_X8_192 : zML RX8 192 yX8_beginBlock := Or.inl (zTbl_i 872 (by decide +kernel) (by decide +kernel))
theorem ml_X8_195 : zML RX8 195 yX3_find := Or.inl (zTbl_i 799 (by decide +kernel) (by decide +kernel))
theorem ml_X8_206 : zML RX8 206 yX8_hire := Or.inl (zTbl_i 804 (by decide +kernel) (by decide +kernel))
theorem ml_X8_210 : zML RX8 210 yX3_firstOnRack := Or.inl (zTbl_i 839 (by decide +kernel) (by decide +kernel))
theorem ml_X8_213 : zML RX8 213 yX3_giveOut := Or.inl (zTbl_i 808 (by decide +kernel) (by decide +kernel))
theorem ml_X8_217 : zML RX8 217 yX8_makeLoan := Or.inl (zTbl_i 812 (by decide +kernel) (by decide +kernel))
theorem ml_X8_224 : zML RX8 224 yX6_addToTrace := Or.inl (zTbl_i 830 (by decide +kernel) (by decide +kernel))
theorem ml_X8_227 : zML RX8 227 yX11_within := Or.inr ⟨"HireScopes", List.mem_of_getElem? (i := 816) (by decide +kernel)⟩
theorem ml_X8_231 : zML RX8 231 yX4_begin := Or.inl (zTbl_i 817 (by decide +kernel) (by decide +kernel))
theorem ml_X8_234 : zML RX8 234 yX4_moveTo := Or.inl (zTbl_i 821 (by decide +kernel) (by decide +kernel))
theorem ml_X8_238 : zML RX8 238 yX1_put := Or.inl (zTbl_i 825 (by decide +kernel) (by decide +kernel))
theorem ml_X8_242 : zML RX8 242 yX8_misuseOf := Or.inl (zTbl_i 851 (by decide +kernel) (by decide +kernel))
theorem ml_X8_246 : zML RX8 246 yX8_partOf := Or.inl (zTbl_i 696 (by decide +kernel) (by decide +kernel))
theorem ml_X8_254 : zML RX8 254 yX7_meets := Or.inl (zTbl_i 854 (by decide +kernel) (by decide +kernel))
theorem ml_X8_259 : zML RX8 259 yX8_giveUp := Or.inl (zTbl_i 660 (by decide +kernel) (by decide +kernel))
theorem ml_X8_270 : zML RX8 270 yX10_faultNumber := Or.inl (zTbl_i 871 (by decide +kernel) (by decide +kernel))
theorem ml_X8_283 : zML RX8 283 yX2_add := Or.inl (zTbl_i 703 (by decide +kernel) (by decide +kernel))
theorem ml_X8_287 : zML RX8 287 yX4_close := Or.inl (zTbl_i 664 (by decide +kernel) (by decide +kernel))
theorem ml_X8_290 : zML RX8 290 yX3_takeBack := Or.inl (zTbl_i 672 (by decide +kernel) (by decide +kernel))
theorem ml_X8_294 : zML RX8 294 yX10_nextOf := Or.inl (zTbl_i 720 (by decide +kernel) (by decide +kernel))
theorem ml_X8_300 : zML RX8 300 yX8_endScopeBlock := Or.inl (zTbl_i 652 (by decide +kernel) (by decide +kernel))
theorem ml_X8_303 : zML RX8 303 yX8_endTurn := Or.inl (zTbl_i 778 (by decide +kernel) (by decide +kernel))
theorem ml_X8_310 : zML RX8 310 yX8_endLastWay := Or.inl (zTbl_i 782 (by decide +kernel) (by decide +kernel))
theorem ml_X8_313 : zML RX8 313 yX8_leaveWay := Or.inl (zTbl_i 762 (by decide +kernel) (by decide +kernel))
theorem ml_X8_316 : zML RX8 316 yX8_endInnermost := Or.inl (zTbl_i 656 (by decide +kernel) (by decide +kernel))
theorem ml_X8_319 : zML RX8 319 yX8_pop := Or.inl (zTbl_i 712 (by decide +kernel) (by decide +kernel))
theorem ml_X8_334 : zML RX8 334 yX10_wayOut := Or.inl (zTbl_i 766 (by decide +kernel) (by decide +kernel))
theorem ml_X8_337 : zML RX8 337 yX8_leaveLoop := Or.inl (zTbl_i 716 (by decide +kernel) (by decide +kernel))
theorem ml_X8_340 : zML RX8 340 yX8_leaveTry := Or.inl (zTbl_i 724 (by decide +kernel) (by decide +kernel))
theorem ml_X8_343 : zML RX8 343 yX8_leaveAct := Or.inl (zTbl_i 770 (by decide +kernel) (by decide +kernel))
theorem ml_X8_346 : zML RX8 346 yX8_leaveLastWay := Or.inl (zTbl_i 728 (by decide +kernel) (by decide +kernel))
theorem ml_X8_350 : zML RX8 350 yX2_kindOf := Or.inl (zTbl_i 732 (by decide +kernel) (by decide +kernel))
theorem ml_X8_353 : zML RX8 353 yX10_guardFor := Or.inl (zTbl_i 736 (by decide +kernel) (by decide +kernel))
theorem ml_X8_357 : zML RX8 357 yX8_beginWay := Or.inl (zTbl_i 750 (by decide +kernel) (by decide +kernel))
theorem ml_X8_364 : zML RX8 364 yX2_giveCause := Or.inl (zTbl_i 758 (by decide +kernel) (by decide +kernel))
theorem ml_X8_367 : zML RX8 367 yX2_suppress := Or.inl (zTbl_i 708 (by decide +kernel) (by decide +kernel))
theorem ml_X8_37 : zML RX8 37 yX2_init := Or.inr ⟨"HireScopes", List.mem_of_getElem? (i := 201) (by decide +kernel)⟩
theorem ml_X8_373 : zML RX8 373 yX8_failAtEnd := Or.inl (zTbl_i 699 (by decide +kernel) (by decide +kernel))
theorem ml_X8_56 : zML RX8 56 yX10_init := Or.inr ⟨"HireScopes", List.mem_of_getElem? (i := 231) (by decide +kernel)⟩
theorem ml_X8_57 : zML RX8 57 yX1_init := Or.inl (zTbl_i 267 (by decide +kernel) (by decide +kernel))
theorem ml_X8_60 : zML RX8 60 yX0_init := Or.inr ⟨"HireScopes", List.mem_of_getElem? (i := 289) (by decide +kernel)⟩
theorem ml_X8_61 : zML RX8 61 yX9_init := Or.inr ⟨"HireScopes", List.mem_of_getElem? (i := 323) (by decide +kernel)⟩
theorem ml_X8_62 : zML RX8 62 yX4_init := Or.inr ⟨"HireScopes", List.mem_of_getElem? (i := 342) (by decide +kernel)⟩
theorem ml_X8_81 : zML RX8 81 yX8_reset := Or.inl (zTbl_i 617 (by decide +kernel) (by decide +kernel))
theorem ml_X8_85 : zML RX8 85 yX11_findScript := Or.inr ⟨"HireScopes", List.mem_of_getElem? (i := 621) (by decide +kernel)⟩
theorem ml_X8_89 : zML RX8 89 yX8_enter := Or.inl (zTbl_i 622 (by decide +kernel) (by decide +kernel))
theorem ms_X10_fits : Cond.static yX10_fits ∈ zTbl := (zTbl_i 565 (by decide +kernel) (by decide +kernel))
theorem ms_X11_findScript : Cond.static yX11_findScript ∈ zTbl := (zTbl_i 551 (by decide +kernel) (by decide +kernel))
theorem ms_X11_isUnder : Cond.static yX11_isUnder ∈ zTbl := (zTbl_i 746 (by decide +kernel) (by decide +kernel))
theorem ms_X11_within : Cond.static yX11_within ∈ zTbl := (zTbl_i 449 (by decide +kernel) (by decide +kernel))
theorem ms_X12_above : Cond.static yX12_above ∈ zTbl := (zTbl_i 1341 (by decide +kernel) (by decide +kernel))
theorem ms_X12_begins : Cond.static yX12_begins ∈ zTbl := (zTbl_i 1219 (by decide +kernel) (by decide +kernel))
theorem ms_X12_in : Cond.static yX12_in ∈ zTbl := (zTbl_i 1154 (by decide +kernel) (by decide +kernel))
theorem ms_X12_isSlot : Cond.static yX12_isSlot ∈ zTbl := (zTbl_i 1211 (by decide +kernel) (by decide +kernel))
theorem ms_X12_isUnder : Cond.static yX12_isUnder ∈ zTbl := (zTbl_i 1338 (by decide +kernel) (by decide +kernel))
theorem ms_X12_isWrong : Cond.static yX12_isWrong ∈ zTbl := (zTbl_i 1208 (by decide +kernel) (by decide +kernel))
theorem ms_X8_misuseOf : Cond.static yX8_misuseOf ∈ zTbl := (zTbl_i 852 (by decide +kernel) (by decide +kernel))
theorem ms_X8_partOf : Cond.static yX8_partOf ∈ zTbl := (zTbl_i 697 (by decide +kernel) (by decide +kernel))
theorem mv_X0_begin : 0 < 13 ∧ yX0_begin.cls = zRX 0 ∧ Cond.instanceMethod yX0_begin ∈ zTbl ∧ Cond.selects yX0_begin.cls yX0_begin yX0_begin ∈ zTbl := ⟨by decide, rfl, (zTbl_i 635 (by decide +kernel) (by decide +kernel)), (zTbl_i 636 (by decide +kernel) (by decide +kernel))⟩
theorem mv_X10_aAt : 10 < 13 ∧ yX10_aAt.cls = zRX 10 ∧ Cond.instanceMethod yX10_aAt ∈ zTbl ∧ Cond.selects yX10_aAt.cls yX10_aAt yX10_aAt ∈ zTbl := ⟨by decide, rfl, (zTbl_i 742 (by decide +kernel) (by decide +kernel)), (zTbl_i 743 (by decide +kernel) (by decide +kernel))⟩
theorem mv_X10_add : 10 < 13 ∧ yX10_add.cls = zRX 10 ∧ Cond.instanceMethod yX10_add ∈ zTbl ∧ Cond.selects yX10_add.cls yX10_add yX10_add ∈ zTbl := ⟨by decide, rfl, (zTbl_i 554 (by decide +kernel) (by decide +kernel)), (zTbl_i 555 (by decide +kernel) (by decide +kernel))⟩
theorem mv_X10_bAt : 10 < 13 ∧ yX10_bAt.cls = zRX 10 ∧ Cond.instanceMethod yX10_bAt ∈ zTbl ∧ Cond.selects yX10_bAt.cls yX10_bAt yX10_bAt ∈ zTbl := ⟨by decide, rfl, (zTbl_i 792 (by decide +kernel) (by decide +kernel)), (zTbl_i 793 (by decide +kernel) (by decide +kernel))⟩
theorem mv_X10_clear : 10 < 13 ∧ yX10_clear.cls = zRX 10 ∧ Cond.instanceMethod yX10_clear ∈ zTbl ∧ Cond.selects yX10_clear.cls yX10_clear yX10_clear ∈ zTbl := ⟨by decide, rfl, (zTbl_i 594 (by decide +kernel) (by decide +kernel)), (zTbl_i 595 (by decide +kernel) (by decide +kernel))⟩
theorem mv_X10_faultLine : 10 < 13 ∧ yX10_faultLine.cls = zRX 10 ∧ Cond.instanceMethod yX10_faultLine ∈ zTbl ∧ Cond.selects yX10_faultLine.cls yX10_faultLine yX10_faultLine ∈ zTbl := ⟨by decide, rfl, (zTbl_i 606 (by decide +kernel) (by decide +kernel)), (zTbl_i 607 (by decide +kernel) (by decide +kernel))⟩
theorem mv_X10_faultNumber : 10 < 13 ∧ yX10_faultNumber.cls = zRX 10 ∧ Cond.instanceMethod yX10_faultNumber ∈ zTbl ∧ Cond.selects yX10_faultNumber.cls yX10_faultNumber yX10_faultNumber ∈ zTbl := ⟨by decide, rfl, (zTbl_i 602 (by decide +kernel) (by decide +kernel)), (zTbl_i 603 (by decide +kernel) (by decide +kernel))⟩
theorem mv_X10_faultOf : 10 < 13 ∧ yX10_faultOf.cls = zRX 10 ∧ Cond.instanceMethod yX10_faultOf ∈ zTbl ∧ Cond.selects yX10_faultOf.cls yX10_faultOf yX10_faultOf ∈ zTbl := ⟨by decide, rfl, (zTbl_i 560 (by decide +kernel) (by decide +kernel)), (zTbl_i 0 (by decide +kernel) (by decide +kernel))⟩
theorem mv_X10_guardFor : 10 < 13 ∧ yX10_guardFor.cls = zRX 10 ∧ Cond.instanceMethod yX10_guardFor ∈ zTbl ∧ Cond.selects yX10_guardFor.cls yX10_guardFor yX10_guardFor ∈ zTbl := ⟨by decide, rfl, (zTbl_i 737 (by decide +kernel) (by decide +kernel)), (zTbl_i 738 (by decide +kernel) (by decide +kernel))⟩
theorem mv_X10_isInLoop : 10 < 13 ∧ yX10_isInLoop.cls = zRX 10 ∧ Cond.instanceMethod yX10_isInLoop ∈ zTbl ∧ Cond.selects yX10_isInLoop.cls yX10_isInLoop yX10_isInLoop ∈ zTbl := ⟨by decide, rfl, (zTbl_i 579 (by decide +kernel) (by decide +kernel)), (zTbl_i 2 (by decide +kernel) (by decide +kernel))⟩
theorem mv_X10_linkMark : 10 < 13 ∧ yX10_linkMark.cls = zRX 10 ∧ Cond.instanceMethod yX10_linkMark ∈ zTbl ∧ Cond.selects yX10_linkMark.cls yX10_linkMark yX10_linkMark ∈ zTbl := ⟨by decide, rfl, (zTbl_i 587 (by decide +kernel) (by decide +kernel)), (zTbl_i 4 (by decide +kernel) (by decide +kernel))⟩
theorem mv_X10_nextOf : 10 < 13 ∧ yX10_nextOf.cls = zRX 10 ∧ Cond.instanceMethod yX10_nextOf ∈ zTbl ∧ Cond.selects yX10_nextOf.cls yX10_nextOf yX10_nextOf ∈ zTbl := ⟨by decide, rfl, (zTbl_i 721 (by decide +kernel) (by decide +kernel)), (zTbl_i 722 (by decide +kernel) (by decide +kernel))⟩
theorem mv_X10_opAt : 10 < 13 ∧ yX10_opAt.cls = zRX 10 ∧ Cond.instanceMethod yX10_opAt ∈ zTbl ∧ Cond.selects yX10_opAt.cls yX10_opAt yX10_opAt ∈ zTbl := ⟨by decide, rfl, (zTbl_i 574 (by decide +kernel) (by decide +kernel)), (zTbl_i 575 (by decide +kernel) (by decide +kernel))⟩
theorem mv_X10_place : 10 < 13 ∧ yX10_place.cls = zRX 10 ∧ Cond.instanceMethod yX10_place ∈ zTbl ∧ Cond.selects yX10_place.cls yX10_place yX10_place ∈ zTbl := ⟨by decide, rfl, (zTbl_i 583 (by decide +kernel) (by decide +kernel)), (zTbl_i 3 (by decide +kernel) (by decide +kernel))⟩
theorem mv_X10_takesWays : 10 < 13 ∧ yX10_takesWays.cls = zRX 10 ∧ Cond.instanceMethod yX10_takesWays ∈ zTbl ∧ Cond.selects yX10_takesWays.cls yX10_takesWays yX10_takesWays ∈ zTbl := ⟨by decide, rfl, (zTbl_i 571 (by decide +kernel) (by decide +kernel)), (zTbl_i 1 (by decide +kernel) (by decide +kernel))⟩
theorem mv_X10_wayOut : 10 < 13 ∧ yX10_wayOut.cls = zRX 10 ∧ Cond.instanceMethod yX10_wayOut ∈ zTbl ∧ Cond.selects yX10_wayOut.cls yX10_wayOut yX10_wayOut ∈ zTbl := ⟨by decide, rfl, (zTbl_i 767 (by decide +kernel) (by decide +kernel)), (zTbl_i 768 (by decide +kernel) (by decide +kernel))⟩
theorem mv_X11_act : 11 < 13 ∧ yX11_act.cls = zRX 11 ∧ Cond.instanceMethod yX11_act ∈ zTbl ∧ Cond.selects yX11_act.cls yX11_act yX11_act ∈ zTbl := ⟨by decide, rfl, (zTbl_i 542 (by decide +kernel) (by decide +kernel)), (zTbl_i 543 (by decide +kernel) (by decide +kernel))⟩
theorem mv_X11_cents : 11 < 13 ∧ yX11_cents.cls = zRX 11 ∧ Cond.instanceMethod yX11_cents ∈ zTbl ∧ Cond.selects yX11_cents.cls yX11_cents yX11_cents ∈ zTbl := ⟨by decide, rfl, (zTbl_i 918 (by decide +kernel) (by decide +kernel)), (zTbl_i 919 (by decide +kernel) (by decide +kernel))⟩
theorem mv_X11_clean : 11 < 13 ∧ yX11_clean.cls = zRX 11 ∧ Cond.instanceMethod yX11_clean ∈ zTbl ∧ Cond.selects yX11_clean.cls yX11_clean yX11_clean ∈ zTbl := ⟨by decide, rfl, (zTbl_i 508 (by decide +kernel) (by decide +kernel)), (zTbl_i 509 (by decide +kernel) (by decide +kernel))⟩
theorem mv_X11_cleaning : 11 < 13 ∧ yX11_cleaning.cls = zRX 11 ∧ Cond.instanceMethod yX11_cleaning ∈ zTbl ∧ Cond.selects yX11_cleaning.cls yX11_cleaning yX11_cleaning ∈ zTbl := ⟨by decide, rfl, (zTbl_i 524 (by decide +kernel) (by decide +kernel)), (zTbl_i 525 (by decide +kernel) (by decide +kernel))⟩
theorem mv_X11_failure : 11 < 13 ∧ yX11_failure.cls = zRX 11 ∧ Cond.instanceMethod yX11_failure ∈ zTbl ∧ Cond.selects yX11_failure.cls yX11_failure yX11_failure ∈ zTbl := ⟨by decide, rfl, (zTbl_i 889 (by decide +kernel) (by decide +kernel)), (zTbl_i 890 (by decide +kernel) (by decide +kernel))⟩
theorem mv_X11_fault : 11 < 13 ∧ yX11_fault.cls = zRX 11 ∧ Cond.instanceMethod yX11_fault ∈ zTbl ∧ Cond.selects yX11_fault.cls yX11_fault yX11_fault ∈ zTbl := ⟨by decide, rfl, (zTbl_i 598 (by decide +kernel) (by decide +kernel)), (zTbl_i 599 (by decide +kernel) (by decide +kernel))⟩
theorem mv_X11_giveBack : 11 < 13 ∧ yX11_giveBack.cls = zRX 11 ∧ Cond.instanceMethod yX11_giveBack ∈ zTbl ∧ Cond.selects yX11_giveBack.cls yX11_giveBack yX11_giveBack ∈ zTbl := ⟨by decide, rfl, (zTbl_i 913 (by decide +kernel) (by decide +kernel)), (zTbl_i 914 (by decide +kernel) (by decide +kernel))⟩
theorem mv_X11_leak : 11 < 13 ∧ yX11_leak.cls = zRX 11 ∧ Cond.instanceMethod yX11_leak ∈ zTbl ∧ Cond.selects yX11_leak.cls yX11_leak yX11_leak ∈ zTbl := ⟨by decide, rfl, (zTbl_i 901 (by decide +kernel) (by decide +kernel)), (zTbl_i 902 (by decide +kernel) (by decide +kernel))⟩
theorem mv_X11_leaks : 11 < 13 ∧ yX11_leaks.cls = zRX 11 ∧ Cond.instanceMethod yX11_leaks ∈ zTbl ∧ Cond.selects yX11_leaks.cls yX11_leaks yX11_leaks ∈ zTbl := ⟨by decide, rfl, (zTbl_i 897 (by decide +kernel) (by decide +kernel)), (zTbl_i 898 (by decide +kernel) (by decide +kernel))⟩
theorem mv_X11_line : 11 < 13 ∧ yX11_line.cls = zRX 11 ∧ Cond.instanceMethod yX11_line ∈ zTbl ∧ Cond.selects yX11_line.cls yX11_line yX11_line ∈ zTbl := ⟨by decide, rfl, (zTbl_i 547 (by decide +kernel) (by decide +kernel)), (zTbl_i 548 (by decide +kernel) (by decide +kernel))⟩
theorem mv_X11_log : 11 < 13 ∧ yX11_log.cls = zRX 11 ∧ Cond.instanceMethod yX11_log ∈ zTbl ∧ Cond.selects yX11_log.cls yX11_log yX11_log ∈ zTbl := ⟨by decide, rfl, (zTbl_i 928 (by decide +kernel) (by decide +kernel)), (zTbl_i 929 (by decide +kernel) (by decide +kernel))⟩
theorem mv_X11_part : 11 < 13 ∧ yX11_part.cls = zRX 11 ∧ Cond.instanceMethod yX11_part ∈ zTbl ∧ Cond.selects yX11_part.cls yX11_part yX11_part ∈ zTbl := ⟨by decide, rfl, (zTbl_i 445 (by decide +kernel) (by decide +kernel)), (zTbl_i 446 (by decide +kernel) (by decide +kernel))⟩
theorem mv_X11_plan : 11 < 13 ∧ yX11_plan.cls = zRX 11 ∧ Cond.instanceMethod yX11_plan ∈ zTbl ∧ Cond.selects yX11_plan.cls yX11_plan yX11_plan ∈ zTbl := ⟨by decide, rfl, (zTbl_i 529 (by decide +kernel) (by decide +kernel)), (zTbl_i 530 (by decide +kernel) (by decide +kernel))⟩
theorem mv_X11_plans : 11 < 13 ∧ yX11_plans.cls = zRX 11 ∧ Cond.instanceMethod yX11_plans ∈ zTbl ∧ Cond.selects yX11_plans.cls yX11_plans yX11_plans ∈ zTbl := ⟨by decide, rfl, (zTbl_i 538 (by decide +kernel) (by decide +kernel)), (zTbl_i 539 (by decide +kernel) (by decide +kernel))⟩
theorem mv_X11_ran : 11 < 13 ∧ yX11_ran.cls = zRX 11 ∧ Cond.instanceMethod yX11_ran ∈ zTbl ∧ Cond.selects yX11_ran.cls yX11_ran yX11_ran ∈ zTbl := ⟨by decide, rfl, (zTbl_i 881 (by decide +kernel) (by decide +kernel)), (zTbl_i 882 (by decide +kernel) (by decide +kernel))⟩
theorem mv_X11_run : 11 < 13 ∧ yX11_run.cls = zRX 11 ∧ Cond.instanceMethod yX11_run ∈ zTbl ∧ Cond.selects yX11_run.cls yX11_run yX11_run ∈ zTbl := ⟨by decide, rfl, (zTbl_i 610 (by decide +kernel) (by decide +kernel)), (zTbl_i 611 (by decide +kernel) (by decide +kernel))⟩
theorem mv_X11_state : 11 < 13 ∧ yX11_state.cls = zRX 11 ∧ Cond.instanceMethod yX11_state ∈ zTbl ∧ Cond.selects yX11_state.cls yX11_state yX11_state ∈ zTbl := ⟨by decide, rfl, (zTbl_i 500 (by decide +kernel) (by decide +kernel)), (zTbl_i 501 (by decide +kernel) (by decide +kernel))⟩
theorem mv_X11_trace : 11 < 13 ∧ yX11_trace.cls = zRX 11 ∧ Cond.instanceMethod yX11_trace ∈ zTbl ∧ Cond.selects yX11_trace.cls yX11_trace yX11_trace ∈ zTbl := ⟨by decide, rfl, (zTbl_i 909 (by decide +kernel) (by decide +kernel)), (zTbl_i 910 (by decide +kernel) (by decide +kernel))⟩
theorem mv_X11_wipe : 11 < 13 ∧ yX11_wipe.cls = zRX 11 ∧ Cond.instanceMethod yX11_wipe ∈ zTbl ∧ Cond.selects yX11_wipe.cls yX11_wipe yX11_wipe ∈ zTbl := ⟨by decide, rfl, (zTbl_i 590 (by decide +kernel) (by decide +kernel)), (zTbl_i 591 (by decide +kernel) (by decide +kernel))⟩
theorem mv_X12_act : 12 < 13 ∧ yX12_act.cls = zRX 12 ∧ Cond.instanceMethod yX12_act ∈ zTbl ∧ Cond.selects yX12_act.cls yX12_act yX12_act ∈ zTbl := ⟨by decide, rfl, (zTbl_i 1184 (by decide +kernel) (by decide +kernel)), (zTbl_i 1185 (by decide +kernel) (by decide +kernel))⟩
theorem mv_X12_begin : 12 < 13 ∧ yX12_begin.cls = zRX 12 ∧ Cond.instanceMethod yX12_begin ∈ zTbl ∧ Cond.selects yX12_begin.cls yX12_begin yX12_begin ∈ zTbl := ⟨by decide, rfl, (zTbl_i 1231 (by decide +kernel) (by decide +kernel)), (zTbl_i 46 (by decide +kernel) (by decide +kernel))⟩
theorem mv_X12_beginAct : 12 < 13 ∧ yX12_beginAct.cls = zRX 12 ∧ Cond.instanceMethod yX12_beginAct ∈ zTbl ∧ Cond.selects yX12_beginAct.cls yX12_beginAct yX12_beginAct ∈ zTbl := ⟨by decide, rfl, (zTbl_i 1227 (by decide +kernel) (by decide +kernel)), (zTbl_i 45 (by decide +kernel) (by decide +kernel))⟩
theorem mv_X12_beginScope : 12 < 13 ∧ yX12_beginScope.cls = zRX 12 ∧ Cond.instanceMethod yX12_beginScope ∈ zTbl ∧ Cond.selects yX12_beginScope.cls yX12_beginScope yX12_beginScope ∈ zTbl := ⟨by decide, rfl, (zTbl_i 1239 (by decide +kernel) (by decide +kernel)), (zTbl_i 48 (by decide +kernel) (by decide +kernel))⟩
theorem mv_X12_behind : 12 < 13 ∧ yX12_behind.cls = zRX 12 ∧ Cond.instanceMethod yX12_behind ∈ zTbl ∧ Cond.selects yX12_behind.cls yX12_behind yX12_behind ∈ zTbl := ⟨by decide, rfl, (zTbl_i 1291 (by decide +kernel) (by decide +kernel)), (zTbl_i 61 (by decide +kernel) (by decide +kernel))⟩
theorem mv_X12_cents : 12 < 13 ∧ yX12_cents.cls = zRX 12 ∧ Cond.instanceMethod yX12_cents ∈ zTbl ∧ Cond.selects yX12_cents.cls yX12_cents yX12_cents ∈ zTbl := ⟨by decide, rfl, (zTbl_i 1376 (by decide +kernel) (by decide +kernel)), (zTbl_i 1377 (by decide +kernel) (by decide +kernel))⟩
theorem mv_X12_clean : 12 < 13 ∧ yX12_clean.cls = zRX 12 ∧ Cond.instanceMethod yX12_clean ∈ zTbl ∧ Cond.selects yX12_clean.cls yX12_clean yX12_clean ∈ zTbl := ⟨by decide, rfl, (zTbl_i 1166 (by decide +kernel) (by decide +kernel)), (zTbl_i 1167 (by decide +kernel) (by decide +kernel))⟩
theorem mv_X12_cleaning : 12 < 13 ∧ yX12_cleaning.cls = zRX 12 ∧ Cond.instanceMethod yX12_cleaning ∈ zTbl ∧ Cond.selects yX12_cleaning.cls yX12_cleaning yX12_cleaning ∈ zTbl := ⟨by decide, rfl, (zTbl_i 1171 (by decide +kernel) (by decide +kernel)), (zTbl_i 1172 (by decide +kernel) (by decide +kernel))⟩
theorem mv_X12_comesBack : 12 < 13 ∧ yX12_comesBack.cls = zRX 12 ∧ Cond.instanceMethod yX12_comesBack ∈ zTbl ∧ Cond.selects yX12_comesBack.cls yX12_comesBack yX12_comesBack ∈ zTbl := ⟨by decide, rfl, (zTbl_i 1263 (by decide +kernel) (by decide +kernel)), (zTbl_i 54 (by decide +kernel) (by decide +kernel))⟩
theorem mv_X12_doLine : 12 < 13 ∧ yX12_doLine.cls = zRX 12 ∧ Cond.instanceMethod yX12_doLine ∈ zTbl ∧ Cond.selects yX12_doLine.cls yX12_doLine yX12_doLine ∈ zTbl := ⟨by decide, rfl, (zTbl_i 1299 (by decide +kernel) (by decide +kernel)), (zTbl_i 63 (by decide +kernel) (by decide +kernel))⟩
theorem mv_X12_doSlot : 12 < 13 ∧ yX12_doSlot.cls = zRX 12 ∧ Cond.instanceMethod yX12_doSlot ∈ zTbl ∧ Cond.selects yX12_doSlot.cls yX12_doSlot yX12_doSlot ∈ zTbl := ⟨by decide, rfl, (zTbl_i 1319 (by decide +kernel) (by decide +kernel)), (zTbl_i 68 (by decide +kernel) (by decide +kernel))⟩
theorem mv_X12_endAct : 12 < 13 ∧ yX12_endAct.cls = zRX 12 ∧ Cond.instanceMethod yX12_endAct ∈ zTbl ∧ Cond.selects yX12_endAct.cls yX12_endAct yX12_endAct ∈ zTbl := ⟨by decide, rfl, (zTbl_i 1345 (by decide +kernel) (by decide +kernel)), (zTbl_i 73 (by decide +kernel) (by decide +kernel))⟩
theorem mv_X12_endBlock : 12 < 13 ∧ yX12_endBlock.cls = zRX 12 ∧ Cond.instanceMethod yX12_endBlock ∈ zTbl ∧ Cond.selects yX12_endBlock.cls yX12_endBlock yX12_endBlock ∈ zTbl := ⟨by decide, rfl, (zTbl_i 1247 (by decide +kernel) (by decide +kernel)), (zTbl_i 50 (by decide +kernel) (by decide +kernel))⟩
theorem mv_X12_endOf : 12 < 13 ∧ yX12_endOf.cls = zRX 12 ∧ Cond.instanceMethod yX12_endOf ∈ zTbl ∧ Cond.selects yX12_endOf.cls yX12_endOf yX12_endOf ∈ zTbl := ⟨by decide, rfl, (zTbl_i 1295 (by decide +kernel) (by decide +kernel)), (zTbl_i 62 (by decide +kernel) (by decide +kernel))⟩
theorem mv_X12_endScope : 12 < 13 ∧ yX12_endScope.cls = zRX 12 ∧ Cond.instanceMethod yX12_endScope ∈ zTbl ∧ Cond.selects yX12_endScope.cls yX12_endScope yX12_endScope ∈ zTbl := ⟨by decide, rfl, (zTbl_i 1251 (by decide +kernel) (by decide +kernel)), (zTbl_i 51 (by decide +kernel) (by decide +kernel))⟩
theorem mv_X12_fail : 12 < 13 ∧ yX12_fail.cls = zRX 12 ∧ Cond.instanceMethod yX12_fail ∈ zTbl ∧ Cond.selects yX12_fail.cls yX12_fail yX12_fail ∈ zTbl := ⟨by decide, rfl, (zTbl_i 1303 (by decide +kernel) (by decide +kernel)), (zTbl_i 64 (by decide +kernel) (by decide +kernel))⟩
theorem mv_X12_failure : 12 < 13 ∧ yX12_failure.cls = zRX 12 ∧ Cond.instanceMethod yX12_failure ∈ zTbl ∧ Cond.selects yX12_failure.cls yX12_failure yX12_failure ∈ zTbl := ⟨by decide, rfl, (zTbl_i 1356 (by decide +kernel) (by decide +kernel)), (zTbl_i 1357 (by decide +kernel) (by decide +kernel))⟩
theorem mv_X12_fault : 12 < 13 ∧ yX12_fault.cls = zRX 12 ∧ Cond.instanceMethod yX12_fault ∈ zTbl ∧ Cond.selects yX12_fault.cls yX12_fault yX12_fault ∈ zTbl := ⟨by decide, rfl, (zTbl_i 1200 (by decide +kernel) (by decide +kernel)), (zTbl_i 1201 (by decide +kernel) (by decide +kernel))⟩
theorem mv_X12_findAct : 12 < 13 ∧ yX12_findAct.cls = zRX 12 ∧ Cond.instanceMethod yX12_findAct ∈ zTbl ∧ Cond.selects yX12_findAct.cls yX12_findAct yX12_findAct ∈ zTbl := ⟨by decide, rfl, (zTbl_i 1349 (by decide +kernel) (by decide +kernel)), (zTbl_i 74 (by decide +kernel) (by decide +kernel))⟩
theorem mv_X12_finishOf : 12 < 13 ∧ yX12_finishOf.cls = zRX 12 ∧ Cond.instanceMethod yX12_finishOf ∈ zTbl ∧ Cond.selects yX12_finishOf.cls yX12_finishOf yX12_finishOf ∈ zTbl := ⟨by decide, rfl, (zTbl_i 1287 (by decide +kernel) (by decide +kernel)), (zTbl_i 60 (by decide +kernel) (by decide +kernel))⟩
theorem mv_X12_giveBack : 12 < 13 ∧ yX12_giveBack.cls = zRX 12 ∧ Cond.instanceMethod yX12_giveBack ∈ zTbl ∧ Cond.selects yX12_giveBack.cls yX12_giveBack yX12_giveBack ∈ zTbl := ⟨by decide, rfl, (zTbl_i 1259 (by decide +kernel) (by decide +kernel)), (zTbl_i 53 (by decide +kernel) (by decide +kernel))⟩
theorem mv_X12_giveBack_ : 12 < 13 ∧ yX12_giveBack_.cls = zRX 12 ∧ Cond.instanceMethod yX12_giveBack_ ∈ zTbl ∧ Cond.selects yX12_giveBack_.cls yX12_giveBack_ yX12_giveBack_ ∈ zTbl := ⟨by decide, rfl, (zTbl_i 1372 (by decide +kernel) (by decide +kernel)), (zTbl_i 1373 (by decide +kernel) (by decide +kernel))⟩
theorem mv_X12_goOn : 12 < 13 ∧ yX12_goOn.cls = zRX 12 ∧ Cond.instanceMethod yX12_goOn ∈ zTbl ∧ Cond.selects yX12_goOn.cls yX12_goOn yX12_goOn ∈ zTbl := ⟨by decide, rfl, (zTbl_i 1243 (by decide +kernel) (by decide +kernel)), (zTbl_i 49 (by decide +kernel) (by decide +kernel))⟩
theorem mv_X12_goTo : 12 < 13 ∧ yX12_goTo.cls = zRX 12 ∧ Cond.instanceMethod yX12_goTo ∈ zTbl ∧ Cond.selects yX12_goTo.cls yX12_goTo yX12_goTo ∈ zTbl := ⟨by decide, rfl, (zTbl_i 1235 (by decide +kernel) (by decide +kernel)), (zTbl_i 47 (by decide +kernel) (by decide +kernel))⟩
theorem mv_X12_guardOf : 12 < 13 ∧ yX12_guardOf.cls = zRX 12 ∧ Cond.instanceMethod yX12_guardOf ∈ zTbl ∧ Cond.selects yX12_guardOf.cls yX12_guardOf yX12_guardOf ∈ zTbl := ⟨by decide, rfl, (zTbl_i 1335 (by decide +kernel) (by decide +kernel)), (zTbl_i 72 (by decide +kernel) (by decide +kernel))⟩
theorem mv_X12_hasOpen : 12 < 13 ∧ yX12_hasOpen.cls = zRX 12 ∧ Cond.instanceMethod yX12_hasOpen ∈ zTbl ∧ Cond.selects yX12_hasOpen.cls yX12_hasOpen yX12_hasOpen ∈ zTbl := ⟨by decide, rfl, (zTbl_i 1323 (by decide +kernel) (by decide +kernel)), (zTbl_i 69 (by decide +kernel) (by decide +kernel))⟩
theorem mv_X12_innermost : 12 < 13 ∧ yX12_innermost.cls = zRX 12 ∧ Cond.instanceMethod yX12_innermost ∈ zTbl ∧ Cond.selects yX12_innermost.cls yX12_innermost yX12_innermost ∈ zTbl := ⟨by decide, rfl, (zTbl_i 1311 (by decide +kernel) (by decide +kernel)), (zTbl_i 66 (by decide +kernel) (by decide +kernel))⟩
theorem mv_X12_judge : 12 < 13 ∧ yX12_judge.cls = zRX 12 ∧ Cond.instanceMethod yX12_judge ∈ zTbl ∧ Cond.selects yX12_judge.cls yX12_judge yX12_judge ∈ zTbl := ⟨by decide, rfl, (zTbl_i 1205 (by decide +kernel) (by decide +kernel)), (zTbl_i 44 (by decide +kernel) (by decide +kernel))⟩
theorem mv_X12_lastOf : 12 < 13 ∧ yX12_lastOf.cls = zRX 12 ∧ Cond.instanceMethod yX12_lastOf ∈ zTbl ∧ Cond.selects yX12_lastOf.cls yX12_lastOf yX12_lastOf ∈ zTbl := ⟨by decide, rfl, (zTbl_i 1255 (by decide +kernel) (by decide +kernel)), (zTbl_i 52 (by decide +kernel) (by decide +kernel))⟩
theorem mv_X12_leak : 12 < 13 ∧ yX12_leak.cls = zRX 12 ∧ Cond.instanceMethod yX12_leak ∈ zTbl ∧ Cond.selects yX12_leak.cls yX12_leak yX12_leak ∈ zTbl := ⟨by decide, rfl, (zTbl_i 1364 (by decide +kernel) (by decide +kernel)), (zTbl_i 1365 (by decide +kernel) (by decide +kernel))⟩
theorem mv_X12_leaks : 12 < 13 ∧ yX12_leaks.cls = zRX 12 ∧ Cond.instanceMethod yX12_leaks ∈ zTbl ∧ Cond.selects yX12_leaks.cls yX12_leaks yX12_leaks ∈ zTbl := ⟨by decide, rfl, (zTbl_i 1360 (by decide +kernel) (by decide +kernel)), (zTbl_i 1361 (by decide +kernel) (by decide +kernel))⟩
theorem mv_X12_leaveTry : 12 < 13 ∧ yX12_leaveTry.cls = zRX 12 ∧ Cond.instanceMethod yX12_leaveTry ∈ zTbl ∧ Cond.selects yX12_leaveTry.cls yX12_leaveTry yX12_leaveTry ∈ zTbl := ⟨by decide, rfl, (zTbl_i 1283 (by decide +kernel) (by decide +kernel)), (zTbl_i 59 (by decide +kernel) (by decide +kernel))⟩
theorem mv_X12_line : 12 < 13 ∧ yX12_line.cls = zRX 12 ∧ Cond.instanceMethod yX12_line ∈ zTbl ∧ Cond.selects yX12_line.cls yX12_line yX12_line ∈ zTbl := ⟨by decide, rfl, (zTbl_i 1188 (by decide +kernel) (by decide +kernel)), (zTbl_i 1189 (by decide +kernel) (by decide +kernel))⟩
theorem mv_X12_log : 12 < 13 ∧ yX12_log.cls = zRX 12 ∧ Cond.instanceMethod yX12_log ∈ zTbl ∧ Cond.selects yX12_log.cls yX12_log yX12_log ∈ zTbl := ⟨by decide, rfl, (zTbl_i 1382 (by decide +kernel) (by decide +kernel)), (zTbl_i 1383 (by decide +kernel) (by decide +kernel))⟩
theorem mv_X12_meets : 12 < 13 ∧ yX12_meets.cls = zRX 12 ∧ Cond.instanceMethod yX12_meets ∈ zTbl ∧ Cond.selects yX12_meets.cls yX12_meets yX12_meets ∈ zTbl := ⟨by decide, rfl, (zTbl_i 1267 (by decide +kernel) (by decide +kernel)), (zTbl_i 55 (by decide +kernel) (by decide +kernel))⟩
theorem mv_X12_newFailure : 12 < 13 ∧ yX12_newFailure.cls = zRX 12 ∧ Cond.instanceMethod yX12_newFailure ∈ zTbl ∧ Cond.selects yX12_newFailure.cls yX12_newFailure yX12_newFailure ∈ zTbl := ⟨by decide, rfl, (zTbl_i 1275 (by decide +kernel) (by decide +kernel)), (zTbl_i 57 (by decide +kernel) (by decide +kernel))⟩
theorem mv_X12_newLoan : 12 < 13 ∧ yX12_newLoan.cls = zRX 12 ∧ Cond.instanceMethod yX12_newLoan ∈ zTbl ∧ Cond.selects yX12_newLoan.cls yX12_newLoan yX12_newLoan ∈ zTbl := ⟨by decide, rfl, (zTbl_i 1307 (by decide +kernel) (by decide +kernel)), (zTbl_i 65 (by decide +kernel) (by decide +kernel))⟩
theorem mv_X12_noAct : 12 < 13 ∧ yX12_noAct.cls = zRX 12 ∧ Cond.instanceMethod yX12_noAct ∈ zTbl ∧ Cond.selects yX12_noAct.cls yX12_noAct yX12_noAct ∈ zTbl := ⟨by decide, rfl, (zTbl_i 1193 (by decide +kernel) (by decide +kernel)), (zTbl_i 43 (by decide +kernel) (by decide +kernel))⟩
theorem mv_X12_noPart : 12 < 13 ∧ yX12_noPart.cls = zRX 12 ∧ Cond.instanceMethod yX12_noPart ∈ zTbl ∧ Cond.selects yX12_noPart.cls yX12_noPart yX12_noPart ∈ zTbl := ⟨by decide, rfl, (zTbl_i 1163 (by decide +kernel) (by decide +kernel)), (zTbl_i 42 (by decide +kernel) (by decide +kernel))⟩
theorem mv_X12_outOfTry : 12 < 13 ∧ yX12_outOfTry.cls = zRX 12 ∧ Cond.instanceMethod yX12_outOfTry ∈ zTbl ∧ Cond.selects yX12_outOfTry.cls yX12_outOfTry yX12_outOfTry ∈ zTbl := ⟨by decide, rfl, (zTbl_i 1331 (by decide +kernel) (by decide +kernel)), (zTbl_i 71 (by decide +kernel) (by decide +kernel))⟩
theorem mv_X12_part : 12 < 13 ∧ yX12_part.cls = zRX 12 ∧ Cond.instanceMethod yX12_part ∈ zTbl ∧ Cond.selects yX12_part.cls yX12_part yX12_part ∈ zTbl := ⟨by decide, rfl, (zTbl_i 1149 (by decide +kernel) (by decide +kernel)), (zTbl_i 1150 (by decide +kernel) (by decide +kernel))⟩
theorem mv_X12_plan : 12 < 13 ∧ yX12_plan.cls = zRX 12 ∧ Cond.instanceMethod yX12_plan ∈ zTbl ∧ Cond.selects yX12_plan.cls yX12_plan yX12_plan ∈ zTbl := ⟨by decide, rfl, (zTbl_i 1175 (by decide +kernel) (by decide +kernel)), (zTbl_i 1176 (by decide +kernel) (by decide +kernel))⟩
theorem mv_X12_plans : 12 < 13 ∧ yX12_plans.cls = zRX 12 ∧ Cond.instanceMethod yX12_plans ∈ zTbl ∧ Cond.selects yX12_plans.cls yX12_plans yX12_plans ∈ zTbl := ⟨by decide, rfl, (zTbl_i 1180 (by decide +kernel) (by decide +kernel)), (zTbl_i 1181 (by decide +kernel) (by decide +kernel))⟩
theorem mv_X12_ran : 12 < 13 ∧ yX12_ran.cls = zRX 12 ∧ Cond.instanceMethod yX12_ran ∈ zTbl ∧ Cond.selects yX12_ran.cls yX12_ran yX12_ran ∈ zTbl := ⟨by decide, rfl, (zTbl_i 1352 (by decide +kernel) (by decide +kernel)), (zTbl_i 1353 (by decide +kernel) (by decide +kernel))⟩
theorem mv_X12_run : 12 < 13 ∧ yX12_run.cls = zRX 12 ∧ Cond.instanceMethod yX12_run ∈ zTbl ∧ Cond.selects yX12_run.cls yX12_run yX12_run ∈ zTbl := ⟨by decide, rfl, (zTbl_i 1222 (by decide +kernel) (by decide +kernel)), (zTbl_i 1223 (by decide +kernel) (by decide +kernel))⟩
theorem mv_X12_spend : 12 < 13 ∧ yX12_spend.cls = zRX 12 ∧ Cond.instanceMethod yX12_spend ∈ zTbl ∧ Cond.selects yX12_spend.cls yX12_spend yX12_spend ∈ zTbl := ⟨by decide, rfl, (zTbl_i 1271 (by decide +kernel) (by decide +kernel)), (zTbl_i 56 (by decide +kernel) (by decide +kernel))⟩
theorem mv_X12_state : 12 < 13 ∧ yX12_state.cls = zRX 12 ∧ Cond.instanceMethod yX12_state ∈ zTbl ∧ Cond.selects yX12_state.cls yX12_state yX12_state ∈ zTbl := ⟨by decide, rfl, (zTbl_i 1158 (by decide +kernel) (by decide +kernel)), (zTbl_i 1159 (by decide +kernel) (by decide +kernel))⟩
theorem mv_X12_step : 12 < 13 ∧ yX12_step.cls = zRX 12 ∧ Cond.instanceMethod yX12_step ∈ zTbl ∧ Cond.selects yX12_step.cls yX12_step yX12_step ∈ zTbl := ⟨by decide, rfl, (zTbl_i 1279 (by decide +kernel) (by decide +kernel)), (zTbl_i 58 (by decide +kernel) (by decide +kernel))⟩
theorem mv_X12_trace : 12 < 13 ∧ yX12_trace.cls = zRX 12 ∧ Cond.instanceMethod yX12_trace ∈ zTbl ∧ Cond.selects yX12_trace.cls yX12_trace yX12_trace ∈ zTbl := ⟨by decide, rfl, (zTbl_i 1315 (by decide +kernel) (by decide +kernel)), (zTbl_i 67 (by decide +kernel) (by decide +kernel))⟩
theorem mv_X12_trace_ : 12 < 13 ∧ yX12_trace_.cls = zRX 12 ∧ Cond.instanceMethod yX12_trace_ ∈ zTbl ∧ Cond.selects yX12_trace_.cls yX12_trace_ yX12_trace_ ∈ zTbl := ⟨by decide, rfl, (zTbl_i 1368 (by decide +kernel) (by decide +kernel)), (zTbl_i 1369 (by decide +kernel) (by decide +kernel))⟩
theorem mv_X12_unwind : 12 < 13 ∧ yX12_unwind.cls = zRX 12 ∧ Cond.instanceMethod yX12_unwind ∈ zTbl ∧ Cond.selects yX12_unwind.cls yX12_unwind yX12_unwind ∈ zTbl := ⟨by decide, rfl, (zTbl_i 1327 (by decide +kernel) (by decide +kernel)), (zTbl_i 70 (by decide +kernel) (by decide +kernel))⟩
theorem mv_X12_wipe : 12 < 13 ∧ yX12_wipe.cls = zRX 12 ∧ Cond.instanceMethod yX12_wipe ∈ zTbl ∧ Cond.selects yX12_wipe.cls yX12_wipe yX12_wipe ∈ zTbl := ⟨by decide, rfl, (zTbl_i 1196 (by decide +kernel) (by decide +kernel)), (zTbl_i 1197 (by decide +kernel) (by decide +kernel))⟩
theorem mv_X1_begin : 1 < 13 ∧ yX1_begin.cls = zRX 1 ∧ Cond.instanceMethod yX1_begin ∈ zTbl ∧ Cond.selects yX1_begin.cls yX1_begin yX1_begin ∈ zTbl := ⟨by decide, rfl, (zTbl_i 627 (by decide +kernel) (by decide +kernel)), (zTbl_i 628 (by decide +kernel) (by decide +kernel))⟩
theorem mv_X1_in : 1 < 13 ∧ yX1_in.cls = zRX 1 ∧ Cond.instanceMethod yX1_in ∈ zTbl ∧ Cond.selects yX1_in.cls yX1_in yX1_in ∈ zTbl := ⟨by decide, rfl, (zTbl_i 844 (by decide +kernel) (by decide +kernel)), (zTbl_i 845 (by decide +kernel) (by decide +kernel))⟩
theorem mv_X1_put : 1 < 13 ∧ yX1_put.cls = zRX 1 ∧ Cond.instanceMethod yX1_put ∈ zTbl ∧ Cond.selects yX1_put.cls yX1_put yX1_put ∈ zTbl := ⟨by decide, rfl, (zTbl_i 826 (by decide +kernel) (by decide +kernel)), (zTbl_i 827 (by decide +kernel) (by decide +kernel))⟩
theorem mv_X2_add : 2 < 13 ∧ yX2_add.cls = zRX 2 ∧ Cond.instanceMethod yX2_add ∈ zTbl ∧ Cond.selects yX2_add.cls yX2_add yX2_add ∈ zTbl := ⟨by decide, rfl, (zTbl_i 704 (by decide +kernel) (by decide +kernel)), (zTbl_i 705 (by decide +kernel) (by decide +kernel))⟩
theorem mv_X2_giveCause : 2 < 13 ∧ yX2_giveCause.cls = zRX 2 ∧ Cond.instanceMethod yX2_giveCause ∈ zTbl ∧ Cond.selects yX2_giveCause.cls yX2_giveCause yX2_giveCause ∈ zTbl := ⟨by decide, rfl, (zTbl_i 759 (by decide +kernel) (by decide +kernel)), (zTbl_i 760 (by decide +kernel) (by decide +kernel))⟩
theorem mv_X2_kindOf : 2 < 13 ∧ yX2_kindOf.cls = zRX 2 ∧ Cond.instanceMethod yX2_kindOf ∈ zTbl ∧ Cond.selects yX2_kindOf.cls yX2_kindOf yX2_kindOf ∈ zTbl := ⟨by decide, rfl, (zTbl_i 733 (by decide +kernel) (by decide +kernel)), (zTbl_i 734 (by decide +kernel) (by decide +kernel))⟩
theorem mv_X2_suppress : 2 < 13 ∧ yX2_suppress.cls = zRX 2 ∧ Cond.instanceMethod yX2_suppress ∈ zTbl ∧ Cond.selects yX2_suppress.cls yX2_suppress yX2_suppress ∈ zTbl := ⟨by decide, rfl, (zTbl_i 709 (by decide +kernel) (by decide +kernel)), (zTbl_i 710 (by decide +kernel) (by decide +kernel))⟩
theorem mv_X2_told : 2 < 13 ∧ yX2_told.cls = zRX 2 ∧ Cond.instanceMethod yX2_told ∈ zTbl ∧ Cond.selects yX2_told.cls yX2_told yX2_told ∈ zTbl := ⟨by decide, rfl, (zTbl_i 893 (by decide +kernel) (by decide +kernel)), (zTbl_i 894 (by decide +kernel) (by decide +kernel))⟩
theorem mv_X3_charge : 3 < 13 ∧ yX3_charge.cls = zRX 3 ∧ Cond.instanceMethod yX3_charge ∈ zTbl ∧ Cond.selects yX3_charge.cls yX3_charge yX3_charge ∈ zTbl := ⟨by decide, rfl, (zTbl_i 686 (by decide +kernel) (by decide +kernel)), (zTbl_i 15 (by decide +kernel) (by decide +kernel))⟩
theorem mv_X3_cleanFirst : 3 < 13 ∧ yX3_cleanFirst.cls = zRX 3 ∧ Cond.instanceMethod yX3_cleanFirst ∈ zTbl ∧ Cond.selects yX3_cleanFirst.cls yX3_cleanFirst yX3_cleanFirst ∈ zTbl := ⟨by decide, rfl, (zTbl_i 512 (by decide +kernel) (by decide +kernel)), (zTbl_i 513 (by decide +kernel) (by decide +kernel))⟩
theorem mv_X3_deposit : 3 < 13 ∧ yX3_deposit.cls = zRX 3 ∧ Cond.instanceMethod yX3_deposit ∈ zTbl ∧ Cond.selects yX3_deposit.cls yX3_deposit yX3_deposit ∈ zTbl := ⟨by decide, rfl, (zTbl_i 924 (by decide +kernel) (by decide +kernel)), (zTbl_i 925 (by decide +kernel) (by decide +kernel))⟩
theorem mv_X3_find : 3 < 13 ∧ yX3_find.cls = zRX 3 ∧ Cond.instanceMethod yX3_find ∈ zTbl ∧ Cond.selects yX3_find.cls yX3_find yX3_find ∈ zTbl := ⟨by decide, rfl, (zTbl_i 504 (by decide +kernel) (by decide +kernel)), (zTbl_i 505 (by decide +kernel) (by decide +kernel))⟩
theorem mv_X3_findHeld : 3 < 13 ∧ yX3_findHeld.cls = zRX 3 ∧ Cond.instanceMethod yX3_findHeld ∈ zTbl ∧ Cond.selects yX3_findHeld.cls yX3_findHeld yX3_findHeld ∈ zTbl := ⟨by decide, rfl, (zTbl_i 905 (by decide +kernel) (by decide +kernel)), (zTbl_i 906 (by decide +kernel) (by decide +kernel))⟩
theorem mv_X3_firstOnRack : 3 < 13 ∧ yX3_firstOnRack.cls = zRX 3 ∧ Cond.instanceMethod yX3_firstOnRack ∈ zTbl ∧ Cond.selects yX3_firstOnRack.cls yX3_firstOnRack yX3_firstOnRack ∈ zTbl := ⟨by decide, rfl, (zTbl_i 840 (by decide +kernel) (by decide +kernel)), (zTbl_i 841 (by decide +kernel) (by decide +kernel))⟩
theorem mv_X3_giveOut : 3 < 13 ∧ yX3_giveOut.cls = zRX 3 ∧ Cond.instanceMethod yX3_giveOut ∈ zTbl ∧ Cond.selects yX3_giveOut.cls yX3_giveOut yX3_giveOut ∈ zTbl := ⟨by decide, rfl, (zTbl_i 809 (by decide +kernel) (by decide +kernel)), (zTbl_i 810 (by decide +kernel) (by decide +kernel))⟩
theorem mv_X3_holdNoMore : 3 < 13 ∧ yX3_holdNoMore.cls = zRX 3 ∧ Cond.instanceMethod yX3_holdNoMore ∈ zTbl ∧ Cond.selects yX3_holdNoMore.cls yX3_holdNoMore yX3_holdNoMore ∈ zTbl := ⟨by decide, rfl, (zTbl_i 682 (by decide +kernel) (by decide +kernel)), (zTbl_i 14 (by decide +kernel) (by decide +kernel))⟩
theorem mv_X3_inCleaning : 3 < 13 ∧ yX3_inCleaning.cls = zRX 3 ∧ Cond.instanceMethod yX3_inCleaning ∈ zTbl ∧ Cond.selects yX3_inCleaning.cls yX3_inCleaning yX3_inCleaning ∈ zTbl := ⟨by decide, rfl, (zTbl_i 519 (by decide +kernel) (by decide +kernel)), (zTbl_i 520 (by decide +kernel) (by decide +kernel))⟩
theorem mv_X3_takeBack : 3 < 13 ∧ yX3_takeBack.cls = zRX 3 ∧ Cond.instanceMethod yX3_takeBack ∈ zTbl ∧ Cond.selects yX3_takeBack.cls yX3_takeBack yX3_takeBack ∈ zTbl := ⟨by decide, rfl, (zTbl_i 673 (by decide +kernel) (by decide +kernel)), (zTbl_i 674 (by decide +kernel) (by decide +kernel))⟩
theorem mv_X3_takeIn : 3 < 13 ∧ yX3_takeIn.cls = zRX 3 ∧ Cond.instanceMethod yX3_takeIn ∈ zTbl ∧ Cond.selects yX3_takeIn.cls yX3_takeIn yX3_takeIn ∈ zTbl := ⟨by decide, rfl, (zTbl_i 453 (by decide +kernel) (by decide +kernel)), (zTbl_i 454 (by decide +kernel) (by decide +kernel))⟩
theorem mv_X3_toCleaning : 3 < 13 ∧ yX3_toCleaning.cls = zRX 3 ∧ Cond.instanceMethod yX3_toCleaning ∈ zTbl ∧ Cond.selects yX3_toCleaning.cls yX3_toCleaning yX3_toCleaning ∈ zTbl := ⟨by decide, rfl, (zTbl_i 690 (by decide +kernel) (by decide +kernel)), (zTbl_i 16 (by decide +kernel) (by decide +kernel))⟩
theorem mv_X4_begin : 4 < 13 ∧ yX4_begin.cls = zRX 4 ∧ Cond.instanceMethod yX4_begin ∈ zTbl ∧ Cond.selects yX4_begin.cls yX4_begin yX4_begin ∈ zTbl := ⟨by decide, rfl, (zTbl_i 818 (by decide +kernel) (by decide +kernel)), (zTbl_i 819 (by decide +kernel) (by decide +kernel))⟩
theorem mv_X4_close : 4 < 13 ∧ yX4_close.cls = zRX 4 ∧ Cond.instanceMethod yX4_close ∈ zTbl ∧ Cond.selects yX4_close.cls yX4_close yX4_close ∈ zTbl := ⟨by decide, rfl, (zTbl_i 665 (by decide +kernel) (by decide +kernel)), (zTbl_i 666 (by decide +kernel) (by decide +kernel))⟩
theorem mv_X4_leaveScope : 4 < 13 ∧ yX4_leaveScope.cls = zRX 4 ∧ Cond.instanceMethod yX4_leaveScope ∈ zTbl ∧ Cond.selects yX4_leaveScope.cls yX4_leaveScope yX4_leaveScope ∈ zTbl := ⟨by decide, rfl, (zTbl_i 670 (by decide +kernel) (by decide +kernel)), (zTbl_i 13 (by decide +kernel) (by decide +kernel))⟩
theorem mv_X4_moveTo : 4 < 13 ∧ yX4_moveTo.cls = zRX 4 ∧ Cond.instanceMethod yX4_moveTo ∈ zTbl ∧ Cond.selects yX4_moveTo.cls yX4_moveTo yX4_moveTo ∈ zTbl := ⟨by decide, rfl, (zTbl_i 822 (by decide +kernel) (by decide +kernel)), (zTbl_i 823 (by decide +kernel) (by decide +kernel))⟩
theorem mv_X5_add : 5 < 13 ∧ yX5_add.cls = zRX 5 ∧ Cond.instanceMethod yX5_add ∈ zTbl ∧ Cond.selects yX5_add.cls yX5_add yX5_add ∈ zTbl := ⟨by decide, rfl, (zTbl_i 693 (by decide +kernel) (by decide +kernel)), (zTbl_i 694 (by decide +kernel) (by decide +kernel))⟩
theorem mv_X5_told : 5 < 13 ∧ yX5_told.cls = zRX 5 ∧ Cond.instanceMethod yX5_told ∈ zTbl ∧ Cond.selects yX5_told.cls yX5_told yX5_told ∈ zTbl := ⟨by decide, rfl, (zTbl_i 932 (by decide +kernel) (by decide +kernel)), (zTbl_i 933 (by decide +kernel) (by decide +kernel))⟩
theorem mv_X6_addToTrace : 6 < 13 ∧ yX6_addToTrace.cls = zRX 6 ∧ Cond.instanceMethod yX6_addToTrace ∈ zTbl ∧ Cond.selects yX6_addToTrace.cls yX6_addToTrace yX6_addToTrace ∈ zTbl := ⟨by decide, rfl, (zTbl_i 831 (by decide +kernel) (by decide +kernel)), (zTbl_i 832 (by decide +kernel) (by decide +kernel))⟩
theorem mv_X7_add : 7 < 13 ∧ yX7_add.cls = zRX 7 ∧ Cond.instanceMethod yX7_add ∈ zTbl ∧ Cond.selects yX7_add.cls yX7_add yX7_add ∈ zTbl := ⟨by decide, rfl, (zTbl_i 533 (by decide +kernel) (by decide +kernel)), (zTbl_i 534 (by decide +kernel) (by decide +kernel))⟩
theorem mv_X7_meets : 7 < 13 ∧ yX7_meets.cls = zRX 7 ∧ Cond.instanceMethod yX7_meets ∈ zTbl ∧ Cond.selects yX7_meets.cls yX7_meets yX7_meets ∈ zTbl := ⟨by decide, rfl, (zTbl_i 677 (by decide +kernel) (by decide +kernel)), (zTbl_i 678 (by decide +kernel) (by decide +kernel))⟩
theorem mv_X8_beginBlock : 8 < 13 ∧ yX8_beginBlock.cls = zRX 8 ∧ Cond.instanceMethod yX8_beginBlock ∈ zTbl ∧ Cond.selects yX8_beginBlock.cls yX8_beginBlock yX8_beginBlock ∈ zTbl := ⟨by decide, rfl, (zTbl_i 874 (by decide +kernel) (by decide +kernel)), (zTbl_i 40 (by decide +kernel) (by decide +kernel))⟩
theorem mv_X8_beginWay : 8 < 13 ∧ yX8_beginWay.cls = zRX 8 ∧ Cond.instanceMethod yX8_beginWay ∈ zTbl ∧ Cond.selects yX8_beginWay.cls yX8_beginWay yX8_beginWay ∈ zTbl := ⟨by decide, rfl, (zTbl_i 752 (by decide +kernel) (by decide +kernel)), (zTbl_i 22 (by decide +kernel) (by decide +kernel))⟩
theorem mv_X8_borrow : 8 < 13 ∧ yX8_borrow.cls = zRX 8 ∧ Cond.instanceMethod yX8_borrow ∈ zTbl ∧ Cond.selects yX8_borrow.cls yX8_borrow yX8_borrow ∈ zTbl := ⟨by decide, rfl, (zTbl_i 797 (by decide +kernel) (by decide +kernel)), (zTbl_i 30 (by decide +kernel) (by decide +kernel))⟩
theorem mv_X8_bringBack : 8 < 13 ∧ yX8_bringBack.cls = zRX 8 ∧ Cond.instanceMethod yX8_bringBack ∈ zTbl ∧ Cond.selects yX8_bringBack.cls yX8_bringBack yX8_bringBack ∈ zTbl := ⟨by decide, rfl, (zTbl_i 857 (by decide +kernel) (by decide +kernel)), (zTbl_i 36 (by decide +kernel) (by decide +kernel))⟩
theorem mv_X8_callAct : 8 < 13 ∧ yX8_callAct.cls = zRX 8 ∧ Cond.instanceMethod yX8_callAct ∈ zTbl ∧ Cond.selects yX8_callAct.cls yX8_callAct yX8_callAct ∈ zTbl := ⟨by decide, rfl, (zTbl_i 869 (by decide +kernel) (by decide +kernel)), (zTbl_i 39 (by decide +kernel) (by decide +kernel))⟩
theorem mv_X8_doLine : 8 < 13 ∧ yX8_doLine.cls = zRX 8 ∧ Cond.instanceMethod yX8_doLine ∈ zTbl ∧ Cond.selects yX8_doLine.cls yX8_doLine yX8_doLine ∈ zTbl := ⟨by decide, rfl, (zTbl_i 788 (by decide +kernel) (by decide +kernel)), (zTbl_i 29 (by decide +kernel) (by decide +kernel))⟩
theorem mv_X8_endInnermost : 8 < 13 ∧ yX8_endInnermost.cls = zRX 8 ∧ Cond.instanceMethod yX8_endInnermost ∈ zTbl ∧ Cond.selects yX8_endInnermost.cls yX8_endInnermost yX8_endInnermost ∈ zTbl := ⟨by decide, rfl, (zTbl_i 658 (by decide +kernel) (by decide +kernel)), (zTbl_i 11 (by decide +kernel) (by decide +kernel))⟩
theorem mv_X8_endLastWay : 8 < 13 ∧ yX8_endLastWay.cls = zRX 8 ∧ Cond.instanceMethod yX8_endLastWay ∈ zTbl ∧ Cond.selects yX8_endLastWay.cls yX8_endLastWay yX8_endLastWay ∈ zTbl := ⟨by decide, rfl, (zTbl_i 784 (by decide +kernel) (by decide +kernel)), (zTbl_i 28 (by decide +kernel) (by decide +kernel))⟩
theorem mv_X8_endScopeBlock : 8 < 13 ∧ yX8_endScopeBlock.cls = zRX 8 ∧ Cond.instanceMethod yX8_endScopeBlock ∈ zTbl ∧ Cond.selects yX8_endScopeBlock.cls yX8_endScopeBlock yX8_endScopeBlock ∈ zTbl := ⟨by decide, rfl, (zTbl_i 654 (by decide +kernel) (by decide +kernel)), (zTbl_i 10 (by decide +kernel) (by decide +kernel))⟩
theorem mv_X8_endTurn : 8 < 13 ∧ yX8_endTurn.cls = zRX 8 ∧ Cond.instanceMethod yX8_endTurn ∈ zTbl ∧ Cond.selects yX8_endTurn.cls yX8_endTurn yX8_endTurn ∈ zTbl := ⟨by decide, rfl, (zTbl_i 780 (by decide +kernel) (by decide +kernel)), (zTbl_i 27 (by decide +kernel) (by decide +kernel))⟩
theorem mv_X8_enter : 8 < 13 ∧ yX8_enter.cls = zRX 8 ∧ Cond.instanceMethod yX8_enter ∈ zTbl ∧ Cond.selects yX8_enter.cls yX8_enter yX8_enter ∈ zTbl := ⟨by decide, rfl, (zTbl_i 624 (by decide +kernel) (by decide +kernel)), (zTbl_i 6 (by decide +kernel) (by decide +kernel))⟩
theorem mv_X8_fail : 8 < 13 ∧ yX8_fail.cls = zRX 8 ∧ Cond.instanceMethod yX8_fail ∈ zTbl ∧ Cond.selects yX8_fail.cls yX8_fail yX8_fail ∈ zTbl := ⟨by decide, rfl, (zTbl_i 802 (by decide +kernel) (by decide +kernel)), (zTbl_i 31 (by decide +kernel) (by decide +kernel))⟩
theorem mv_X8_failAtEnd : 8 < 13 ∧ yX8_failAtEnd.cls = zRX 8 ∧ Cond.instanceMethod yX8_failAtEnd ∈ zTbl ∧ Cond.selects yX8_failAtEnd.cls yX8_failAtEnd yX8_failAtEnd ∈ zTbl := ⟨by decide, rfl, (zTbl_i 701 (by decide +kernel) (by decide +kernel)), (zTbl_i 17 (by decide +kernel) (by decide +kernel))⟩
theorem mv_X8_giveUp : 8 < 13 ∧ yX8_giveUp.cls = zRX 8 ∧ Cond.instanceMethod yX8_giveUp ∈ zTbl ∧ Cond.selects yX8_giveUp.cls yX8_giveUp yX8_giveUp ∈ zTbl := ⟨by decide, rfl, (zTbl_i 662 (by decide +kernel) (by decide +kernel)), (zTbl_i 12 (by decide +kernel) (by decide +kernel))⟩
theorem mv_X8_hire : 8 < 13 ∧ yX8_hire.cls = zRX 8 ∧ Cond.instanceMethod yX8_hire ∈ zTbl ∧ Cond.selects yX8_hire.cls yX8_hire yX8_hire ∈ zTbl := ⟨by decide, rfl, (zTbl_i 806 (by decide +kernel) (by decide +kernel)), (zTbl_i 32 (by decide +kernel) (by decide +kernel))⟩
theorem mv_X8_leave : 8 < 13 ∧ yX8_leave.cls = zRX 8 ∧ Cond.instanceMethod yX8_leave ∈ zTbl ∧ Cond.selects yX8_leave.cls yX8_leave yX8_leave ∈ zTbl := ⟨by decide, rfl, (zTbl_i 650 (by decide +kernel) (by decide +kernel)), (zTbl_i 9 (by decide +kernel) (by decide +kernel))⟩
theorem mv_X8_leaveAct : 8 < 13 ∧ yX8_leaveAct.cls = zRX 8 ∧ Cond.instanceMethod yX8_leaveAct ∈ zTbl ∧ Cond.selects yX8_leaveAct.cls yX8_leaveAct yX8_leaveAct ∈ zTbl := ⟨by decide, rfl, (zTbl_i 772 (by decide +kernel) (by decide +kernel)), (zTbl_i 25 (by decide +kernel) (by decide +kernel))⟩
theorem mv_X8_leaveLastWay : 8 < 13 ∧ yX8_leaveLastWay.cls = zRX 8 ∧ Cond.instanceMethod yX8_leaveLastWay ∈ zTbl ∧ Cond.selects yX8_leaveLastWay.cls yX8_leaveLastWay yX8_leaveLastWay ∈ zTbl := ⟨by decide, rfl, (zTbl_i 730 (by decide +kernel) (by decide +kernel)), (zTbl_i 21 (by decide +kernel) (by decide +kernel))⟩
theorem mv_X8_leaveLoop : 8 < 13 ∧ yX8_leaveLoop.cls = zRX 8 ∧ Cond.instanceMethod yX8_leaveLoop ∈ zTbl ∧ Cond.selects yX8_leaveLoop.cls yX8_leaveLoop yX8_leaveLoop ∈ zTbl := ⟨by decide, rfl, (zTbl_i 718 (by decide +kernel) (by decide +kernel)), (zTbl_i 19 (by decide +kernel) (by decide +kernel))⟩
theorem mv_X8_leaveTry : 8 < 13 ∧ yX8_leaveTry.cls = zRX 8 ∧ Cond.instanceMethod yX8_leaveTry ∈ zTbl ∧ Cond.selects yX8_leaveTry.cls yX8_leaveTry yX8_leaveTry ∈ zTbl := ⟨by decide, rfl, (zTbl_i 726 (by decide +kernel) (by decide +kernel)), (zTbl_i 20 (by decide +kernel) (by decide +kernel))⟩
theorem mv_X8_leaveWay : 8 < 13 ∧ yX8_leaveWay.cls = zRX 8 ∧ Cond.instanceMethod yX8_leaveWay ∈ zTbl ∧ Cond.selects yX8_leaveWay.cls yX8_leaveWay yX8_leaveWay ∈ zTbl := ⟨by decide, rfl, (zTbl_i 764 (by decide +kernel) (by decide +kernel)), (zTbl_i 24 (by decide +kernel) (by decide +kernel))⟩
theorem mv_X8_lendOn : 8 < 13 ∧ yX8_lendOn.cls = zRX 8 ∧ Cond.instanceMethod yX8_lendOn ∈ zTbl ∧ Cond.selects yX8_lendOn.cls yX8_lendOn yX8_lendOn ∈ zTbl := ⟨by decide, rfl, (zTbl_i 861 (by decide +kernel) (by decide +kernel)), (zTbl_i 37 (by decide +kernel) (by decide +kernel))⟩
theorem mv_X8_makeLoan : 8 < 13 ∧ yX8_makeLoan.cls = zRX 8 ∧ Cond.instanceMethod yX8_makeLoan ∈ zTbl ∧ Cond.selects yX8_makeLoan.cls yX8_makeLoan yX8_makeLoan ∈ zTbl := ⟨by decide, rfl, (zTbl_i 814 (by decide +kernel) (by decide +kernel)), (zTbl_i 33 (by decide +kernel) (by decide +kernel))⟩
theorem mv_X8_openScope : 8 < 13 ∧ yX8_openScope.cls = zRX 8 ∧ Cond.instanceMethod yX8_openScope ∈ zTbl ∧ Cond.selects yX8_openScope.cls yX8_openScope yX8_openScope ∈ zTbl := ⟨by decide, rfl, (zTbl_i 640 (by decide +kernel) (by decide +kernel)), (zTbl_i 8 (by decide +kernel) (by decide +kernel))⟩
theorem mv_X8_passOn : 8 < 13 ∧ yX8_passOn.cls = zRX 8 ∧ Cond.instanceMethod yX8_passOn ∈ zTbl ∧ Cond.selects yX8_passOn.cls yX8_passOn yX8_passOn ∈ zTbl := ⟨by decide, rfl, (zTbl_i 865 (by decide +kernel) (by decide +kernel)), (zTbl_i 38 (by decide +kernel) (by decide +kernel))⟩
theorem mv_X8_perform : 8 < 13 ∧ yX8_perform.cls = zRX 8 ∧ Cond.instanceMethod yX8_perform ∈ zTbl ∧ Cond.selects yX8_perform.cls yX8_perform yX8_perform ∈ zTbl := ⟨by decide, rfl, (zTbl_i 614 (by decide +kernel) (by decide +kernel)), (zTbl_i 615 (by decide +kernel) (by decide +kernel))⟩
theorem mv_X8_pop : 8 < 13 ∧ yX8_pop.cls = zRX 8 ∧ Cond.instanceMethod yX8_pop ∈ zTbl ∧ Cond.selects yX8_pop.cls yX8_pop yX8_pop ∈ zTbl := ⟨by decide, rfl, (zTbl_i 714 (by decide +kernel) (by decide +kernel)), (zTbl_i 18 (by decide +kernel) (by decide +kernel))⟩
theorem mv_X8_push : 8 < 13 ∧ yX8_push.cls = zRX 8 ∧ Cond.instanceMethod yX8_push ∈ zTbl ∧ Cond.selects yX8_push.cls yX8_push yX8_push ∈ zTbl := ⟨by decide, rfl, (zTbl_i 632 (by decide +kernel) (by decide +kernel)), (zTbl_i 7 (by decide +kernel) (by decide +kernel))⟩
theorem mv_X8_reachMark : 8 < 13 ∧ yX8_reachMark.cls = zRX 8 ∧ Cond.instanceMethod yX8_reachMark ∈ zTbl ∧ Cond.selects yX8_reachMark.cls yX8_reachMark yX8_reachMark ∈ zTbl := ⟨by decide, rfl, (zTbl_i 776 (by decide +kernel) (by decide +kernel)), (zTbl_i 26 (by decide +kernel) (by decide +kernel))⟩
theorem mv_X8_reset : 8 < 13 ∧ yX8_reset.cls = zRX 8 ∧ Cond.instanceMethod yX8_reset ∈ zTbl ∧ Cond.selects yX8_reset.cls yX8_reset yX8_reset ∈ zTbl := ⟨by decide, rfl, (zTbl_i 619 (by decide +kernel) (by decide +kernel)), (zTbl_i 5 (by decide +kernel) (by decide +kernel))⟩
theorem mv_X8_spend : 8 < 13 ∧ yX8_spend.cls = zRX 8 ∧ Cond.instanceMethod yX8_spend ∈ zTbl ∧ Cond.selects yX8_spend.cls yX8_spend yX8_spend ∈ zTbl := ⟨by decide, rfl, (zTbl_i 878 (by decide +kernel) (by decide +kernel)), (zTbl_i 41 (by decide +kernel) (by decide +kernel))⟩
theorem mv_X8_step : 8 < 13 ∧ yX8_step.cls = zRX 8 ∧ Cond.instanceMethod yX8_step ∈ zTbl ∧ Cond.selects yX8_step.cls yX8_step yX8_step ∈ zTbl := ⟨by decide, rfl, (zTbl_i 756 (by decide +kernel) (by decide +kernel)), (zTbl_i 23 (by decide +kernel) (by decide +kernel))⟩
theorem mv_X8_take : 8 < 13 ∧ yX8_take.cls = zRX 8 ∧ Cond.instanceMethod yX8_take ∈ zTbl ∧ Cond.selects yX8_take.cls yX8_take yX8_take ∈ zTbl := ⟨by decide, rfl, (zTbl_i 837 (by decide +kernel) (by decide +kernel)), (zTbl_i 34 (by decide +kernel) (by decide +kernel))⟩
theorem mv_X8_told : 8 < 13 ∧ yX8_told.cls = zRX 8 ∧ Cond.instanceMethod yX8_told ∈ zTbl ∧ Cond.selects yX8_told.cls yX8_told yX8_told ∈ zTbl := ⟨by decide, rfl, (zTbl_i 885 (by decide +kernel) (by decide +kernel)), (zTbl_i 886 (by decide +kernel) (by decide +kernel))⟩
theorem mv_X8_use : 8 < 13 ∧ yX8_use.cls = zRX 8 ∧ Cond.instanceMethod yX8_use ∈ zTbl ∧ Cond.selects yX8_use.cls yX8_use yX8_use ∈ zTbl := ⟨by decide, rfl, (zTbl_i 849 (by decide +kernel) (by decide +kernel)), (zTbl_i 35 (by decide +kernel) (by decide +kernel))⟩
theorem mv_X9_begin : 9 < 13 ∧ yX9_begin.cls = zRX 9 ∧ Cond.instanceMethod yX9_begin ∈ zTbl ∧ Cond.selects yX9_begin.cls yX9_begin yX9_begin ∈ zTbl := ⟨by decide, rfl, (zTbl_i 643 (by decide +kernel) (by decide +kernel)), (zTbl_i 644 (by decide +kernel) (by decide +kernel))⟩
theorem sl_10_55 : zSL RX10 55 100 := ⟨by decide, by decide, Or.inr ⟨"HireScopes", List.mem_of_getElem? (i := 562) (by decide +kernel)⟩⟩
theorem sl_10_61 : zSL RX10 61 101 := ⟨by decide, by decide, Or.inr ⟨"HireScopes", List.mem_of_getElem? (i := 567) (by decide +kernel)⟩⟩
theorem sl_11_149 : zSL RX11 149 102 := ⟨by decide, by decide, Or.inl (zTbl_i 748 (by decide +kernel) (by decide +kernel))⟩
set_option maxRecDepth 20000 in
theorem wc_min : Cond.code Lib.Math.min.name Lib.Math.min.code 2 (some .int) ∈ zTbl := zTbl_i 517 rfl rfl

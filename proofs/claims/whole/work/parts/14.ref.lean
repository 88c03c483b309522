abbrev M_X12_init : zM := (RX12, (cX12_init, (1, (none, true))))
def F_X12_init_0 (l0 : Int) (h : zH) : zO := if 0 ≤ l0 then (zl (pt (nw (pt (nw (pt (nw h 50 60) 12 l0 1 (cn h 50)) 51 60) 12 l0 2 (cn (pt (nw h 50 60) 12 l0 1 (cn h 50)) 51)) 52 60) 12 l0 3 (cn (pt (nw (pt (nw h 50 60) 12 l0 1 (cn h 50)) 51 60) 12 l0 2 (cn (pt (nw h 50 60) 12 l0 1 (cn h 50)) 51)) 52)) (fun k2 => zl (pt (nw (pt (nw (pt (nw k2 53 60) 12 l0 5 (cn k2 53)) 54 30) 12 l0 7 (cn (pt (nw k2 53 60) 12 l0 5 (cn k2 53)) 54)) 55 30) 12 l0 8 (cn (pt (nw (pt (nw k2 53 60) 12 l0 5 (cn k2 53)) 54 30) 12 l0 7 (cn (pt (nw k2 53 60) 12 l0 5 (cn k2 53)) 54)) 55)) (fun k3 => zl (pt (nw (pt (nw (pt (nw k3 56 30) 12 l0 9 (cn k3 56)) 57 30) 12 l0 10 (cn (pt (nw k3 56 30) 12 l0 9 (cn k3 56)) 57)) 58 8) 12 l0 11 (cn (pt (nw (pt (nw k3 56 30) 12 l0 9 (cn k3 56)) 57 30) 12 l0 10 (cn (pt (nw k3 56 30) 12 l0 9 (cn k3 56)) 57)) 58)) (fun k4 => zl (pt (nw (pt (nw (pt (nw k4 59 60) 12 l0 13 (cn k4 59)) 60 60) 12 l0 14 (cn (pt (nw k4 59 60) 12 l0 13 (cn k4 59)) 60)) 61 60) 12 l0 15 (cn (pt (nw (pt (nw k4 59 60) 12 l0 13 (cn k4 59)) 60 60) 12 l0 14 (cn (pt (nw k4 59 60) 12 l0 13 (cn k4 59)) 60)) 61)) (fun k5 => zl (nw (pt (nw (pt (nw k5 62 12) 12 l0 17 (cn k5 62)) 63 480) 12 l0 18 (cn (pt (nw k5 62 12) 12 l0 17 (cn k5 62)) 63)) 64 480) (fun k6 => zl (pt k6 12 l0 19 (cn (pt (nw (pt (nw k5 62 12) 12 l0 17 (cn k5 62)) 63 480) 12 l0 18 (cn (pt (nw k5 62 12) 12 l0 17 (cn k5 62)) 63)) 64)) (fun k7 => zl (nw (pt (nw (pt (nw k7 65 480) 12 l0 20 (cn k7 65)) 66 50) 12 l0 23 (cn (pt (nw k7 65 480) 12 l0 20 (cn k7 65)) 66)) 67 50) (fun k8 => zl (pt k8 12 l0 24 (cn (pt (nw (pt (nw k7 65 480) 12 l0 20 (cn k7 65)) 66 50) 12 l0 23 (cn (pt (nw k7 65 480) 12 l0 20 (cn k7 65)) 66)) 67)) (fun k9 => zl (nw (pt (nw (pt (nw k9 68 150) 12 l0 26 (cn k9 68)) 69 150) 12 l0 27 (cn (pt (nw k9 68 150) 12 l0 26 (cn k9 68)) 69)) 70 150) (fun k10 => zl (pt k10 12 l0 28 (cn (pt (nw (pt (nw k9 68 150) 12 l0 26 (cn k9 68)) 69 150) 12 l0 27 (cn (pt (nw k9 68 150) 12 l0 26 (cn k9 68)) 69)) 70)) (fun k11 => zl (nw (pt (nw (pt (nw k11 71 150) 12 l0 29 (cn k11 71)) 72 150) 12 l0 30 (cn (pt (nw k11 71 150) 12 l0 29 (cn k11 71)) 72)) 73 150) (fun k12 => zl (pt k12 12 l0 31 (cn (pt (nw (pt (nw k11 71 150) 12 l0 29 (cn k11 71)) 72 150) 12 l0 30 (cn (pt (nw k11 71 150) 12 l0 29 (cn k11 71)) 72)) 73)) (fun k13 => zl (nw (pt (nw (pt (nw k13 74 88) 12 l0 32 (cn k13 74)) 75 180) 12 l0 35 (cn (pt (nw k13 74 88) 12 l0 32 (cn k13 74)) 75)) 76 180) (fun k14 => zl (pt k14 12 l0 36 (cn (pt (nw (pt (nw k13 74 88) 12 l0 32 (cn k13 74)) 75 180) 12 l0 35 (cn (pt (nw k13 74 88) 12 l0 32 (cn k13 74)) 75)) 76)) (fun k15 => zl (nw (pt (nw (pt (nw k15 77 180) 12 l0 37 (cn k15 77)) 78 180) 12 l0 38 (cn (pt (nw k15 77 180) 12 l0 37 (cn k15 77)) 78)) 79 180) (fun k16 => zl (pt k16 12 l0 39 (cn (pt (nw (pt (nw k15 77 180) 12 l0 37 (cn k15 77)) 78 180) 12 l0 38 (cn (pt (nw k15 77 180) 12 l0 37 (cn k15 77)) 78)) 79)) (fun k17 => zl (nw (pt (nw (pt (nw k17 80 180) 12 l0 40 (cn k17 80)) 81 180) 12 l0 41 (cn (pt (nw k17 80 180) 12 l0 40 (cn k17 80)) 81)) 82 3600) (fun k18 => zl (pt k18 12 l0 42 (cn (pt (nw (pt (nw k17 80 180) 12 l0 40 (cn k17 80)) 81 180) 12 l0 41 (cn (pt (nw k17 80 180) 12 l0 40 (cn k17 80)) 81)) 82)) (fun k19 => zl (nw (pt (nw (pt (nw k19 83 16) 12 l0 46 (cn k19 83)) 84 16) 12 l0 47 (cn (pt (nw k19 83 16) 12 l0 46 (cn k19 83)) 84)) 85 16) (fun k20 => zl (pt k20 12 l0 48 (cn (pt (nw (pt (nw k19 83 16) 12 l0 46 (cn k19 83)) 84 16) 12 l0 47 (cn (pt (nw k19 83 16) 12 l0 46 (cn k19 83)) 84)) 85)) (fun k21 => zl (nw (pt (nw (pt (nw k21 86 16) 12 l0 49 (cn k21 86)) 87 16) 12 l0 50 (cn (pt (nw k21 86 16) 12 l0 49 (cn k21 86)) 87)) 88 16) (fun k22 => zl (pt k22 12 l0 51 (cn (pt (nw (pt (nw k21 86 16) 12 l0 49 (cn k21 86)) 87 16) 12 l0 50 (cn (pt (nw k21 86 16) 12 l0 49 (cn k21 86)) 87)) 88)) (fun k23 => zl (pt (nw (pt (nw (pt k23 12 l0 59 (-1)) 89 60) 12 l0 63 (cn (pt k23 12 l0 59 (-1)) 89)) 90 60) 12 l0 64 (cn (pt (nw (pt k23 12 l0 59 (-1)) 89 60) 12 l0 63 (cn (pt k23 12 l0 59 (-1)) 89)) 90)) (fun k24 => some (0, (pt (nw (pt (nw k24 91 60) 12 l0 65 (cn k24 91)) 92 1200) 12 l0 66 (cn (pt (nw k24 91 60) 12 l0 65 (cn k24 91)) 92))))))))))))))))))))))))))) else none
set_option maxHeartbeats 1000000 in
theorem x_X12_init_0 {l0 : Int} {h : zH} {r : Int} {h' : zH} (hF : F_X12_init_0 l0 h = some (r, h')) : Ex 1 M_X12_init 0 [some (vr 12 l0)] [] h (fun r1 h1 => r1 = none ∧ h1 = h') := by
  unfold F_X12_init_0 at hF
  refine ex_aload_n (q := 1) dX12_init_0 rfl rfl ?_
  obtain ⟨g1, hF⟩ := zg hF
  refine ex_obj (q := 4) dX12_init_1 rfl (by decide) g1 (by decide) (zTbl_i 941 (by decide +kernel) (by decide +kernel)) (zTbl_i 96 (by decide +kernel) (by decide +kernel)) (zTbl_i 97 rfl rfl) (Nat.le_of_ble_eq_true rfl) ?_
  refine ex_aload_n (q := 5) dX12_init_4 rfl rfl ?_
  refine ex_bipush (q := 7) dX12_init_5 rfl (by decide) ⟨by decide, by decide⟩ ?_
  refine ex_newa (q := 9) (n := cn h 50) dX12_init_7 rfl kd_50 rfl (by decide) (by decide) (zTbl_i 126 (by decide +kernel) (by decide +kernel)) rfl rfl ?_
  refine ex_putF (q := 12) 1 dX12_init_9 rfl (by decide) (by decide) (zTbl_i 943 (by decide +kernel) (by decide +kernel)) (by decide) rfl (by decide) g1 rfl rfl (fun z => by cases z) ?_
  refine ex_aload_n (q := 13) dX12_init_12 rfl rfl ?_
  refine ex_bipush (q := 15) dX12_init_13 rfl (by decide) ⟨by decide, by decide⟩ ?_
  refine ex_newa (q := 17) (n := cn (pt (nw h 50 60) 12 l0 1 (cn h 50)) 51) dX12_init_15 rfl kd_51 rfl (by decide) (by decide) (zTbl_i 126 (by decide +kernel) (by decide +kernel)) rfl rfl ?_
  refine ex_putF (q := 20) 2 dX12_init_17 rfl (by decide) (by decide) (zTbl_i 944 (by decide +kernel) (by decide +kernel)) (by decide) rfl (by decide) g1 rfl rfl (fun z => by cases z) ?_
  refine ex_aload_n (q := 21) dX12_init_20 rfl rfl ?_
  refine ex_bipush (q := 23) dX12_init_21 rfl (by decide) ⟨by decide, by decide⟩ ?_
  refine ex_newa (q := 25) (n := cn (pt (nw (pt (nw h 50 60) 12 l0 1 (cn h 50)) 51 60) 12 l0 2 (cn (pt (nw h 50 60) 12 l0 1 (cn h 50)) 51)) 52) dX12_init_23 rfl kd_52 rfl (by decide) (by decide) (zTbl_i 126 (by decide +kernel) (by decide +kernel)) rfl rfl ?_
  refine ex_putF (q := 28) 3 dX12_init_25 rfl (by decide) (by decide) (zTbl_i 945 (by decide +kernel) (by decide +kernel)) (by decide) rfl (by decide) g1 rfl rfl (fun z => by cases z) ?_
  have hF := zl_e hF
  generalize pt (nw (pt (nw (pt (nw h 50 60) 12 l0 1 (cn h 50)) 51 60) 12 l0 2 (cn (pt (nw h 50 60) 12 l0 1 (cn h 50)) 51)) 52 60) 12 l0 3 (cn (pt (nw (pt (nw h 50 60) 12 l0 1 (cn h 50)) 51 60) 12 l0 2 (cn (pt (nw h 50 60) 12 l0 1 (cn h 50)) 51)) 52) = k2 at hF ⊢
  refine ex_aload_n (q := 29) dX12_init_28 rfl rfl ?_
  refine ex_bipush (q := 31) dX12_init_29 rfl (by decide) ⟨by decide, by decide⟩ ?_
  refine ex_newa (q := 33) (n := cn k2 53) dX12_init_31 rfl kd_53 rfl (by decide) (by decide) (zTbl_i 126 (by decide +kernel) (by decide +kernel)) rfl rfl ?_
  refine ex_putF (q := 36) 5 dX12_init_33 rfl (by decide) (by decide) (zTbl_i 947 (by decide +kernel) (by decide +kernel)) (by decide) rfl (by decide) g1 rfl rfl (fun z => by cases z) ?_
  refine ex_aload_n (q := 37) dX12_init_36 rfl rfl ?_
  refine ex_bipush (q := 39) dX12_init_37 rfl (by decide) ⟨by decide, by decide⟩ ?_
  refine ex_newa (q := 41) (n := cn (pt (nw k2 53 60) 12 l0 5 (cn k2 53)) 54) dX12_init_39 rfl kd_54 rfl (by decide) (by decide) (zTbl_i 126 (by decide +kernel) (by decide +kernel)) rfl rfl ?_
  refine ex_putF (q := 44) 7 dX12_init_41 rfl (by decide) (by decide) (zTbl_i 949 (by decide +kernel) (by decide +kernel)) (by decide) rfl (by decide) g1 rfl rfl (fun z => by cases z) ?_
  refine ex_aload_n (q := 45) dX12_init_44 rfl rfl ?_
  refine ex_bipush (q := 47) dX12_init_45 rfl (by decide) ⟨by decide, by decide⟩ ?_
  refine ex_newa (q := 49) (n := cn (pt (nw (pt (nw k2 53 60) 12 l0 5 (cn k2 53)) 54 30) 12 l0 7 (cn (pt (nw k2 53 60) 12 l0 5 (cn k2 53)) 54)) 55) dX12_init_47 rfl kd_55 rfl (by decide) (by decide) (zTbl_i 126 (by decide +kernel) (by decide +kernel)) rfl rfl ?_
  refine ex_putF (q := 52) 8 dX12_init_49 rfl (by decide) (by decide) (zTbl_i 950 (by decide +kernel) (by decide +kernel)) (by decide) rfl (by decide) g1 rfl rfl (fun z => by cases z) ?_
  have hF := zl_e hF
  generalize pt (nw (pt (nw (pt (nw k2 53 60) 12 l0 5 (cn k2 53)) 54 30) 12 l0 7 (cn (pt (nw k2 53 60) 12 l0 5 (cn k2 53)) 54)) 55 30) 12 l0 8 (cn (pt (nw (pt (nw k2 53 60) 12 l0 5 (cn k2 53)) 54 30) 12 l0 7 (cn (pt (nw k2 53 60) 12 l0 5 (cn k2 53)) 54)) 55) = k3 at hF ⊢
  refine ex_aload_n (q := 53) dX12_init_52 rfl rfl ?_
  refine ex_bipush (q := 55) dX12_init_53 rfl (by decide) ⟨by decide, by decide⟩ ?_
  refine ex_newa (q := 57) (n := cn k3 56) dX12_init_55 rfl kd_56 rfl (by decide) (by decide) (zTbl_i 126 (by decide +kernel) (by decide +kernel)) rfl rfl ?_
  refine ex_putF (q := 60) 9 dX12_init_57 rfl (by decide) (by decide) (zTbl_i 951 (by decide +kernel) (by decide +kernel)) (by decide) rfl (by decide) g1 rfl rfl (fun z => by cases z) ?_
  refine ex_aload_n (q := 61) dX12_init_60 rfl rfl ?_
  refine ex_bipush (q := 63) dX12_init_61 rfl (by decide) ⟨by decide, by decide⟩ ?_
  refine ex_newa (q := 65) (n := cn (pt (nw k3 56 30) 12 l0 9 (cn k3 56)) 57) dX12_init_63 rfl kd_57 rfl (by decide) (by decide) (zTbl_i 126 (by decide +kernel) (by decide +kernel)) rfl rfl ?_
  refine ex_putF (q := 68) 10 dX12_init_65 rfl (by decide) (by decide) (zTbl_i 952 (by decide +kernel) (by decide +kernel)) (by decide) rfl (by decide) g1 rfl rfl (fun z => by cases z) ?_
  refine ex_aload_n (q := 69) dX12_init_68 rfl rfl ?_
  refine ex_bipush (q := 71) dX12_init_69 rfl (by decide) ⟨by decide, by decide⟩ ?_
  refine ex_newa (q := 73) (n := cn (pt (nw (pt (nw k3 56 30) 12 l0 9 (cn k3 56)) 57 30) 12 l0 10 (cn (pt (nw k3 56 30) 12 l0 9 (cn k3 56)) 57)) 58) dX12_init_71 rfl kd_58 rfl (by decide) (by decide) (zTbl_i 127 (by decide +kernel) (by decide +kernel)) rfl rfl ?_
  refine ex_putF (q := 76) 11 dX12_init_73 rfl (by decide) (by decide) (zTbl_i 953 (by decide +kernel) (by decide +kernel)) (by decide) rfl (by decide) g1 rfl rfl (fun z => by cases z) ?_
  have hF := zl_e hF
  generalize pt (nw (pt (nw (pt (nw k3 56 30) 12 l0 9 (cn k3 56)) 57 30) 12 l0 10 (cn (pt (nw k3 56 30) 12 l0 9 (cn k3 56)) 57)) 58 8) 12 l0 11 (cn (pt (nw (pt (nw k3 56 30) 12 l0 9 (cn k3 56)) 57 30) 12 l0 10 (cn (pt (nw k3 56 30) 12 l0 9 (cn k3 56)) 57)) 58) = k4 at hF ⊢
  refine ex_aload_n (q := 77) dX12_init_76 rfl rfl ?_
  refine ex_bipush (q := 79) dX12_init_77 rfl (by decide) ⟨by decide, by decide⟩ ?_
  refine ex_newa (q := 81) (n := cn k4 59) dX12_init_79 rfl kd_59 rfl (by decide) (by decide) (zTbl_i 126 (by decide +kernel) (by decide +kernel)) rfl rfl ?_
  refine ex_putF (q := 84) 13 dX12_init_81 rfl (by decide) (by decide) (zTbl_i 955 (by decide +kernel) (by decide +kernel)) (by decide) rfl (by decide) g1 rfl rfl (fun z => by cases z) ?_
  refine ex_aload_n (q := 85) dX12_init_84 rfl rfl ?_
  refine ex_bipush (q := 87) dX12_init_85 rfl (by decide) ⟨by decide, by decide⟩ ?_
  refine ex_newa (q := 89) (n := cn (pt (nw k4 59 60) 12 l0 13 (cn k4 59)) 60) dX12_init_87 rfl kd_60 rfl (by decide) (by decide) (zTbl_i 126 (by decide +kernel) (by decide +kernel)) rfl rfl ?_
  refine ex_putF (q := 92) 14 dX12_init_89 rfl (by decide) (by decide) (zTbl_i 956 (by decide +kernel) (by decide +kernel)) (by decide) rfl (by decide) g1 rfl rfl (fun z => by cases z) ?_
  refine ex_aload_n (q := 93) dX12_init_92 rfl rfl ?_
  refine ex_bipush (q := 95) dX12_init_93 rfl (by decide) ⟨by decide, by decide⟩ ?_
  refine ex_newa (q := 97) (n := cn (pt (nw (pt (nw k4 59 60) 12 l0 13 (cn k4 59)) 60 60) 12 l0 14 (cn (pt (nw k4 59 60) 12 l0 13 (cn k4 59)) 60)) 61) dX12_init_95 rfl kd_61 rfl (by decide) (by decide) (zTbl_i 126 (by decide +kernel) (by decide +kernel)) rfl rfl ?_
  refine ex_putF (q := 100) 15 dX12_init_97 rfl (by decide) (by decide) (zTbl_i 957 (by decide +kernel) (by decide +kernel)) (by decide) rfl (by decide) g1 rfl rfl (fun z => by cases z) ?_
  have hF := zl_e hF
  generalize pt (nw (pt (nw (pt (nw k4 59 60) 12 l0 13 (cn k4 59)) 60 60) 12 l0 14 (cn (pt (nw k4 59 60) 12 l0 13 (cn k4 59)) 60)) 61 60) 12 l0 15 (cn (pt (nw (pt (nw k4 59 60) 12 l0 13 (cn k4 59)) 60 60) 12 l0 14 (cn (pt (nw k4 59 60) 12 l0 13 (cn k4 59)) 60)) 61) = k5 at hF ⊢
  refine ex_aload_n (q := 101) dX12_init_100 rfl rfl ?_
  refine ex_bipush (q := 103) dX12_init_101 rfl (by decide) ⟨by decide, by decide⟩ ?_
  refine ex_newa (q := 105) (n := cn k5 62) dX12_init_103 rfl kd_62 rfl (by decide) (by decide) (zTbl_i 126 (by decide +kernel) (by decide +kernel)) rfl rfl ?_
  refine ex_putF (q := 108) 17 dX12_init_105 rfl (by decide) (by decide) (zTbl_i 959 (by decide +kernel) (by decide +kernel)) (by decide) rfl (by decide) g1 rfl rfl (fun z => by cases z) ?_
  refine ex_aload_n (q := 109) dX12_init_108 rfl rfl ?_
  refine ex_sipush (q := 112) dX12_init_109 rfl (by decide) ⟨by decide, by decide⟩ ?_
  refine ex_newa (q := 114) (n := cn (pt (nw k5 62 12) 12 l0 17 (cn k5 62)) 63) dX12_init_112 rfl kd_63 rfl (by decide) (by decide) (zTbl_i 126 (by decide +kernel) (by decide +kernel)) rfl rfl ?_
  refine ex_putF (q := 117) 18 dX12_init_114 rfl (by decide) (by decide) (zTbl_i 960 (by decide +kernel) (by decide +kernel)) (by decide) rfl (by decide) g1 rfl rfl (fun z => by cases z) ?_
  refine ex_aload_n (q := 118) dX12_init_117 rfl rfl ?_
  refine ex_sipush (q := 121) dX12_init_118 rfl (by decide) ⟨by decide, by decide⟩ ?_
  refine ex_newa (q := 123) (n := cn (pt (nw (pt (nw k5 62 12) 12 l0 17 (cn k5 62)) 63 480) 12 l0 18 (cn (pt (nw k5 62 12) 12 l0 17 (cn k5 62)) 63)) 64) dX12_init_121 rfl kd_64 rfl (by decide) (by decide) (zTbl_i 126 (by decide +kernel) (by decide +kernel)) rfl rfl ?_
  have hF := zl_e hF
  generalize nw (pt (nw (pt (nw k5 62 12) 12 l0 17 (cn k5 62)) 63 480) 12 l0 18 (cn (pt (nw k5 62 12) 12 l0 17 (cn k5 62)) 63)) 64 480 = k6 at hF ⊢
  refine ex_putF (q := 126) 19 dX12_init_123 rfl (by decide) (by decide) (zTbl_i 961 (by decide +kernel) (by decide +kernel)) (by decide) rfl (by decide) g1 rfl rfl (fun z => by cases z) ?_
  have hF := zl_e hF
  generalize pt k6 12 l0 19 (cn (pt (nw (pt (nw k5 62 12) 12 l0 17 (cn k5 62)) 63 480) 12 l0 18 (cn (pt (nw k5 62 12) 12 l0 17 (cn k5 62)) 63)) 64) = k7 at hF ⊢
  refine ex_aload_n (q := 127) dX12_init_126 rfl rfl ?_
  refine ex_sipush (q := 130) dX12_init_127 rfl (by decide) ⟨by decide, by decide⟩ ?_
  refine ex_newa (q := 132) (n := cn k7 65) dX12_init_130 rfl kd_65 rfl (by decide) (by decide) (zTbl_i 126 (by decide +kernel) (by decide +kernel)) rfl rfl ?_
  refine ex_putF (q := 135) 20 dX12_init_132 rfl (by decide) (by decide) (zTbl_i 962 (by decide +kernel) (by decide +kernel)) (by decide) rfl (by decide) g1 rfl rfl (fun z => by cases z) ?_
  refine ex_aload_n (q := 136) dX12_init_135 rfl rfl ?_
  refine ex_bipush (q := 138) dX12_init_136 rfl (by decide) ⟨by decide, by decide⟩ ?_
  refine ex_newa (q := 140) (n := cn (pt (nw k7 65 480) 12 l0 20 (cn k7 65)) 66) dX12_init_138 rfl kd_66 rfl (by decide) (by decide) (zTbl_i 126 (by decide +kernel) (by decide +kernel)) rfl rfl ?_
  refine ex_putF (q := 143) 23 dX12_init_140 rfl (by decide) (by decide) (zTbl_i 965 (by decide +kernel) (by decide +kernel)) (by decide) rfl (by decide) g1 rfl rfl (fun z => by cases z) ?_
  refine ex_aload_n (q := 144) dX12_init_143 rfl rfl ?_
  refine ex_bipush (q := 146) dX12_init_144 rfl (by decide) ⟨by decide, by decide⟩ ?_
  refine ex_newa (q := 148) (n := cn (pt (nw (pt (nw k7 65 480) 12 l0 20 (cn k7 65)) 66 50) 12 l0 23 (cn (pt (nw k7 65 480) 12 l0 20 (cn k7 65)) 66)) 67) dX12_init_146 rfl kd_67 rfl (by decide) (by decide) (zTbl_i 1147 (by decide +kernel) (by decide +kernel)) rfl rfl ?_
  have hF := zl_e hF
  generalize nw (pt (nw (pt (nw k7 65 480) 12 l0 20 (cn k7 65)) 66 50) 12 l0 23 (cn (pt (nw k7 65 480) 12 l0 20 (cn k7 65)) 66)) 67 50 = k8 at hF ⊢
  refine ex_putF (q := 151) 24 dX12_init_148 rfl (by decide) (by decide) (zTbl_i 966 (by decide +kernel) (by decide +kernel)) (by decide) rfl (by decide) g1 rfl rfl (fun z => by cases z) ?_
  have hF := zl_e hF
  generalize pt k8 12 l0 24 (cn (pt (nw (pt (nw k7 65 480) 12 l0 20 (cn k7 65)) 66 50) 12 l0 23 (cn (pt (nw k7 65 480) 12 l0 20 (cn k7 65)) 66)) 67) = k9 at hF ⊢
  refine ex_aload_n (q := 152) dX12_init_151 rfl rfl ?_
  refine ex_sipush (q := 155) dX12_init_152 rfl (by decide) ⟨by decide, by decide⟩ ?_
  refine ex_newa (q := 157) (n := cn k9 68) dX12_init_155 rfl kd_68 rfl (by decide) (by decide) (zTbl_i 126 (by decide +kernel) (by decide +kernel)) rfl rfl ?_
  refine ex_putF (q := 160) 26 dX12_init_157 rfl (by decide) (by decide) (zTbl_i 968 (by decide +kernel) (by decide +kernel)) (by decide) rfl (by decide) g1 rfl rfl (fun z => by cases z) ?_
  refine ex_aload_n (q := 161) dX12_init_160 rfl rfl ?_
  refine ex_sipush (q := 164) dX12_init_161 rfl (by decide) ⟨by decide, by decide⟩ ?_
  refine ex_newa (q := 166) (n := cn (pt (nw k9 68 150) 12 l0 26 (cn k9 68)) 69) dX12_init_164 rfl kd_69 rfl (by decide) (by decide) (zTbl_i 126 (by decide +kernel) (by decide +kernel)) rfl rfl ?_
  refine ex_putF (q := 169) 27 dX12_init_166 rfl (by decide) (by decide) (zTbl_i 969 (by decide +kernel) (by decide +kernel)) (by decide) rfl (by decide) g1 rfl rfl (fun z => by cases z) ?_
  refine ex_aload_n (q := 170) dX12_init_169 rfl rfl ?_
  refine ex_sipush (q := 173) dX12_init_170 rfl (by decide) ⟨by decide, by decide⟩ ?_
  refine ex_newa (q := 175) (n := cn (pt (nw (pt (nw k9 68 150) 12 l0 26 (cn k9 68)) 69 150) 12 l0 27 (cn (pt (nw k9 68 150) 12 l0 26 (cn k9 68)) 69)) 70) dX12_init_173 rfl kd_70 rfl (by decide) (by decide) (zTbl_i 126 (by decide +kernel) (by decide +kernel)) rfl rfl ?_
  have hF := zl_e hF
  generalize nw (pt (nw (pt (nw k9 68 150) 12 l0 26 (cn k9 68)) 69 150) 12 l0 27 (cn (pt (nw k9 68 150) 12 l0 26 (cn k9 68)) 69)) 70 150 = k10 at hF ⊢
  refine ex_putF (q := 178) 28 dX12_init_175 rfl (by decide) (by decide) (zTbl_i 970 (by decide +kernel) (by decide +kernel)) (by decide) rfl (by decide) g1 rfl rfl (fun z => by cases z) ?_
  have hF := zl_e hF
  generalize pt k10 12 l0 28 (cn (pt (nw (pt (nw k9 68 150) 12 l0 26 (cn k9 68)) 69 150) 12 l0 27 (cn (pt (nw k9 68 150) 12 l0 26 (cn k9 68)) 69)) 70) = k11 at hF ⊢
  refine ex_aload_n (q := 179) dX12_init_178 rfl rfl ?_
  refine ex_sipush (q := 182) dX12_init_179 rfl (by decide) ⟨by decide, by decide⟩ ?_
  refine ex_newa (q := 184) (n := cn k11 71) dX12_init_182 rfl kd_71 rfl (by decide) (by decide) (zTbl_i 126 (by decide +kernel) (by decide +kernel)) rfl rfl ?_
  refine ex_putF (q := 187) 29 dX12_init_184 rfl (by decide) (by decide) (zTbl_i 971 (by decide +kernel) (by decide +kernel)) (by decide) rfl (by decide) g1 rfl rfl (fun z => by cases z) ?_
  refine ex_aload_n (q := 188) dX12_init_187 rfl rfl ?_
  refine ex_sipush (q := 191) dX12_init_188 rfl (by decide) ⟨by decide, by decide⟩ ?_
  refine ex_newa (q := 193) (n := cn (pt (nw k11 71 150) 12 l0 29 (cn k11 71)) 72) dX12_init_191 rfl kd_72 rfl (by decide) (by decide) (zTbl_i 126 (by decide +kernel) (by decide +kernel)) rfl rfl ?_
  refine ex_putF (q := 196) 30 dX12_init_193 rfl (by decide) (by decide) (zTbl_i 972 (by decide +kernel) (by decide +kernel)) (by decide) rfl (by decide) g1 rfl rfl (fun z => by cases z) ?_
  refine ex_aload_n (q := 197) dX12_init_196 rfl rfl ?_
  refine ex_sipush (q := 200) dX12_init_197 rfl (by decide) ⟨by decide, by decide⟩ ?_
  refine ex_newa (q := 202) (n := cn (pt (nw (pt (nw k11 71 150) 12 l0 29 (cn k11 71)) 72 150) 12 l0 30 (cn (pt (nw k11 71 150) 12 l0 29 (cn k11 71)) 72)) 73) dX12_init_200 rfl kd_73 rfl (by decide) (by decide) (zTbl_i 126 (by decide +kernel) (by decide +kernel)) rfl rfl ?_
  have hF := zl_e hF
  generalize nw (pt (nw (pt (nw k11 71 150) 12 l0 29 (cn k11 71)) 72 150) 12 l0 30 (cn (pt (nw k11 71 150) 12 l0 29 (cn k11 71)) 72)) 73 150 = k12 at hF ⊢
  refine ex_putF (q := 205) 31 dX12_init_202 rfl (by decide) (by decide) (zTbl_i 973 (by decide +kernel) (by decide +kernel)) (by decide) rfl (by decide) g1 rfl rfl (fun z => by cases z) ?_
  have hF := zl_e hF
  generalize pt k12 12 l0 31 (cn (pt (nw (pt (nw k11 71 150) 12 l0 29 (cn k11 71)) 72 150) 12 l0 30 (cn (pt (nw k11 71 150) 12 l0 29 (cn k11 71)) 72)) 73) = k13 at hF ⊢
  refine ex_aload_n (q := 206) dX12_init_205 rfl rfl ?_
  refine ex_bipush (q := 208) dX12_init_206 rfl (by decide) ⟨by decide, by decide⟩ ?_
  refine ex_newa (q := 210) (n := cn k13 74) dX12_init_208 rfl kd_74 rfl (by decide) (by decide) (zTbl_i 126 (by decide +kernel) (by decide +kernel)) rfl rfl ?_
  refine ex_putF (q := 213) 32 dX12_init_210 rfl (by decide) (by decide) (zTbl_i 974 (by decide +kernel) (by decide +kernel)) (by decide) rfl (by decide) g1 rfl rfl (fun z => by cases z) ?_
  refine ex_aload_n (q := 214) dX12_init_213 rfl rfl ?_
  refine ex_sipush (q := 217) dX12_init_214 rfl (by decide) ⟨by decide, by decide⟩ ?_
  refine ex_newa (q := 219) (n := cn (pt (nw k13 74 88) 12 l0 32 (cn k13 74)) 75) dX12_init_217 rfl kd_75 rfl (by decide) (by decide) (zTbl_i 126 (by decide +kernel) (by decide +kernel)) rfl rfl ?_
  refine ex_putF (q := 222) 35 dX12_init_219 rfl (by decide) (by decide) (zTbl_i 977 (by decide +kernel) (by decide +kernel)) (by decide) rfl (by decide) g1 rfl rfl (fun z => by cases z) ?_
  refine ex_aload_n (q := 223) dX12_init_222 rfl rfl ?_
  refine ex_sipush (q := 226) dX12_init_223 rfl (by decide) ⟨by decide, by decide⟩ ?_
  refine ex_newa (q := 228) (n := cn (pt (nw (pt (nw k13 74 88) 12 l0 32 (cn k13 74)) 75 180) 12 l0 35 (cn (pt (nw k13 74 88) 12 l0 32 (cn k13 74)) 75)) 76) dX12_init_226 rfl kd_76 rfl (by decide) (by decide) (zTbl_i 126 (by decide +kernel) (by decide +kernel)) rfl rfl ?_
  have hF := zl_e hF
  generalize nw (pt (nw (pt (nw k13 74 88) 12 l0 32 (cn k13 74)) 75 180) 12 l0 35 (cn (pt (nw k13 74 88) 12 l0 32 (cn k13 74)) 75)) 76 180 = k14 at hF ⊢
  refine ex_putF (q := 231) 36 dX12_init_228 rfl (by decide) (by decide) (zTbl_i 978 (by decide +kernel) (by decide +kernel)) (by decide) rfl (by decide) g1 rfl rfl (fun z => by cases z) ?_
  have hF := zl_e hF
  generalize pt k14 12 l0 36 (cn (pt (nw (pt (nw k13 74 88) 12 l0 32 (cn k13 74)) 75 180) 12 l0 35 (cn (pt (nw k13 74 88) 12 l0 32 (cn k13 74)) 75)) 76) = k15 at hF ⊢
  refine ex_aload_n (q := 232) dX12_init_231 rfl rfl ?_
  refine ex_sipush (q := 235) dX12_init_232 rfl (by decide) ⟨by decide, by decide⟩ ?_
  refine ex_newa (q := 237) (n := cn k15 77) dX12_init_235 rfl kd_77 rfl (by decide) (by decide) (zTbl_i 126 (by decide +kernel) (by decide +kernel)) rfl rfl ?_
  refine ex_putF (q := 240) 37 dX12_init_237 rfl (by decide) (by decide) (zTbl_i 979 (by decide +kernel) (by decide +kernel)) (by decide) rfl (by decide) g1 rfl rfl (fun z => by cases z) ?_
  refine ex_aload_n (q := 241) dX12_init_240 rfl rfl ?_
  refine ex_sipush (q := 244) dX12_init_241 rfl (by decide) ⟨by decide, by decide⟩ ?_
  refine ex_newa (q := 246) (n := cn (pt (nw k15 77 180) 12 l0 37 (cn k15 77)) 78) dX12_init_244 rfl kd_78 rfl (by decide) (by decide) (zTbl_i 126 (by decide +kernel) (by decide +kernel)) rfl rfl ?_
  refine ex_putF (q := 249) 38 dX12_init_246 rfl (by decide) (by decide) (zTbl_i 980 (by decide +kernel) (by decide +kernel)) (by decide) rfl (by decide) g1 rfl rfl (fun z => by cases z) ?_
  refine ex_aload_n (q := 250) dX12_init_249 rfl rfl ?_
  refine ex_sipush (q := 253) dX12_init_250 rfl (by decide) ⟨by decide, by decide⟩ ?_
  refine ex_newa (q := 255) (n := cn (pt (nw (pt (nw k15 77 180) 12 l0 37 (cn k15 77)) 78 180) 12 l0 38 (cn (pt (nw k15 77 180) 12 l0 37 (cn k15 77)) 78)) 79) dX12_init_253 rfl kd_79 rfl (by decide) (by decide) (zTbl_i 126 (by decide +kernel) (by decide +kernel)) rfl rfl ?_
  have hF := zl_e hF
  generalize nw (pt (nw (pt (nw k15 77 180) 12 l0 37 (cn k15 77)) 78 180) 12 l0 38 (cn (pt (nw k15 77 180) 12 l0 37 (cn k15 77)) 78)) 79 180 = k16 at hF ⊢
  refine ex_putF (q := 258) 39 dX12_init_255 rfl (by decide) (by decide) (zTbl_i 981 (by decide +kernel) (by decide +kernel)) (by decide) rfl (by decide) g1 rfl rfl (fun z => by cases z) ?_
  have hF := zl_e hF
  generalize pt k16 12 l0 39 (cn (pt (nw (pt (nw k15 77 180) 12 l0 37 (cn k15 77)) 78 180) 12 l0 38 (cn (pt (nw k15 77 180) 12 l0 37 (cn k15 77)) 78)) 79) = k17 at hF ⊢
  refine ex_aload_n (q := 259) dX12_init_258 rfl rfl ?_
  refine ex_sipush (q := 262) dX12_init_259 rfl (by decide) ⟨by decide, by decide⟩ ?_
  refine ex_newa (q := 264) (n := cn k17 80) dX12_init_262 rfl kd_80 rfl (by decide) (by decide) (zTbl_i 1147 (by decide +kernel) (by decide +kernel)) rfl rfl ?_
  refine ex_putF (q := 267) 40 dX12_init_264 rfl (by decide) (by decide) (zTbl_i 982 (by decide +kernel) (by decide +kernel)) (by decide) rfl (by decide) g1 rfl rfl (fun z => by cases z) ?_
  refine ex_aload_n (q := 268) dX12_init_267 rfl rfl ?_
  refine ex_sipush (q := 271) dX12_init_268 rfl (by decide) ⟨by decide, by decide⟩ ?_
  refine ex_newa (q := 273) (n := cn (pt (nw k17 80 180) 12 l0 40 (cn k17 80)) 81) dX12_init_271 rfl kd_81 rfl (by decide) (by decide) (zTbl_i 126 (by decide +kernel) (by decide +kernel)) rfl rfl ?_
  refine ex_putF (q := 276) 41 dX12_init_273 rfl (by decide) (by decide) (zTbl_i 983 (by decide +kernel) (by decide +kernel)) (by decide) rfl (by decide) g1 rfl rfl (fun z => by cases z) ?_
  refine ex_aload_n (q := 277) dX12_init_276 rfl rfl ?_
  refine ex_sipush (q := 280) dX12_init_277 rfl (by decide) ⟨by decide, by decide⟩ ?_
  refine ex_newa (q := 282) (n := cn (pt (nw (pt (nw k17 80 180) 12 l0 40 (cn k17 80)) 81 180) 12 l0 41 (cn (pt (nw k17 80 180) 12 l0 40 (cn k17 80)) 81)) 82) dX12_init_280 rfl kd_82 rfl (by decide) (by decide) (zTbl_i 126 (by decide +kernel) (by decide +kernel)) rfl rfl ?_
  have hF := zl_e hF
  generalize nw (pt (nw (pt (nw k17 80 180) 12 l0 40 (cn k17 80)) 81 180) 12 l0 41 (cn (pt (nw k17 80 180) 12 l0 40 (cn k17 80)) 81)) 82 3600 = k18 at hF ⊢
  refine ex_putF (q := 285) 42 dX12_init_282 rfl (by decide) (by decide) (zTbl_i 984 (by decide +kernel) (by decide +kernel)) (by decide) rfl (by decide) g1 rfl rfl (fun z => by cases z) ?_
  have hF := zl_e hF
  generalize pt k18 12 l0 42 (cn (pt (nw (pt (nw k17 80 180) 12 l0 40 (cn k17 80)) 81 180) 12 l0 41 (cn (pt (nw k17 80 180) 12 l0 40 (cn k17 80)) 81)) 82) = k19 at hF ⊢
  refine ex_aload_n (q := 286) dX12_init_285 rfl rfl ?_
  refine ex_bipush (q := 288) dX12_init_286 rfl (by decide) ⟨by decide, by decide⟩ ?_
  refine ex_newa (q := 290) (n := cn k19 83) dX12_init_288 rfl kd_83 rfl (by decide) (by decide) (zTbl_i 126 (by decide +kernel) (by decide +kernel)) rfl rfl ?_
  refine ex_putF (q := 293) 46 dX12_init_290 rfl (by decide) (by decide) (zTbl_i 988 (by decide +kernel) (by decide +kernel)) (by decide) rfl (by decide) g1 rfl rfl (fun z => by cases z) ?_
  refine ex_aload_n (q := 294) dX12_init_293 rfl rfl ?_
  refine ex_bipush (q := 296) dX12_init_294 rfl (by decide) ⟨by decide, by decide⟩ ?_
  refine ex_newa (q := 298) (n := cn (pt (nw k19 83 16) 12 l0 46 (cn k19 83)) 84) dX12_init_296 rfl kd_84 rfl (by decide) (by decide) (zTbl_i 126 (by decide +kernel) (by decide +kernel)) rfl rfl ?_
  refine ex_putF (q := 301) 47 dX12_init_298 rfl (by decide) (by decide) (zTbl_i 989 (by decide +kernel) (by decide +kernel)) (by decide) rfl (by decide) g1 rfl rfl (fun z => by cases z) ?_
  refine ex_aload_n (q := 302) dX12_init_301 rfl rfl ?_
  refine ex_bipush (q := 304) dX12_init_302 rfl (by decide) ⟨by decide, by decide⟩ ?_
  refine ex_newa (q := 306) (n := cn (pt (nw (pt (nw k19 83 16) 12 l0 46 (cn k19 83)) 84 16) 12 l0 47 (cn (pt (nw k19 83 16) 12 l0 46 (cn k19 83)) 84)) 85) dX12_init_304 rfl kd_85 rfl (by decide) (by decide) (zTbl_i 126 (by decide +kernel) (by decide +kernel)) rfl rfl ?_
  have hF := zl_e hF
  generalize nw (pt (nw (pt (nw k19 83 16) 12 l0 46 (cn k19 83)) 84 16) 12 l0 47 (cn (pt (nw k19 83 16) 12 l0 46 (cn k19 83)) 84)) 85 16 = k20 at hF ⊢
  refine ex_putF (q := 309) 48 dX12_init_306 rfl (by decide) (by decide) (zTbl_i 990 (by decide +kernel) (by decide +kernel)) (by decide) rfl (by decide) g1 rfl rfl (fun z => by cases z) ?_
  have hF := zl_e hF
  generalize pt k20 12 l0 48 (cn (pt (nw (pt (nw k19 83 16) 12 l0 46 (cn k19 83)) 84 16) 12 l0 47 (cn (pt (nw k19 83 16) 12 l0 46 (cn k19 83)) 84)) 85) = k21 at hF ⊢
  refine ex_aload_n (q := 310) dX12_init_309 rfl rfl ?_
  refine ex_bipush (q := 312) dX12_init_310 rfl (by decide) ⟨by decide, by decide⟩ ?_
  refine ex_newa (q := 314) (n := cn k21 86) dX12_init_312 rfl kd_86 rfl (by decide) (by decide) (zTbl_i 126 (by decide +kernel) (by decide +kernel)) rfl rfl ?_
  refine ex_putF (q := 317) 49 dX12_init_314 rfl (by decide) (by decide) (zTbl_i 991 (by decide +kernel) (by decide +kernel)) (by decide) rfl (by decide) g1 rfl rfl (fun z => by cases z) ?_
  refine ex_aload_n (q := 318) dX12_init_317 rfl rfl ?_
  refine ex_bipush (q := 320) dX12_init_318 rfl (by decide) ⟨by decide, by decide⟩ ?_
  refine ex_newa (q := 322) (n := cn (pt (nw k21 86 16) 12 l0 49 (cn k21 86)) 87) dX12_init_320 rfl kd_87 rfl (by decide) (by decide) (zTbl_i 126 (by decide +kernel) (by decide +kernel)) rfl rfl ?_
  refine ex_putF (q := 325) 50 dX12_init_322 rfl (by decide) (by decide) (zTbl_i 992 (by decide +kernel) (by decide +kernel)) (by decide) rfl (by decide) g1 rfl rfl (fun z => by cases z) ?_
  refine ex_aload_n (q := 326) dX12_init_325 rfl rfl ?_
  refine ex_bipush (q := 328) dX12_init_326 rfl (by decide) ⟨by decide, by decide⟩ ?_
  refine ex_newa (q := 330) (n := cn (pt (nw (pt (nw k21 86 16) 12 l0 49 (cn k21 86)) 87 16) 12 l0 50 (cn (pt (nw k21 86 16) 12 l0 49 (cn k21 86)) 87)) 88) dX12_init_328 rfl kd_88 rfl (by decide) (by decide) (zTbl_i 126 (by decide +kernel) (by decide +kernel)) rfl rfl ?_
  have hF := zl_e hF
  generalize nw (pt (nw (pt (nw k21 86 16) 12 l0 49 (cn k21 86)) 87 16) 12 l0 50 (cn (pt (nw k21 86 16) 12 l0 49 (cn k21 86)) 87)) 88 16 = k22 at hF ⊢
  refine ex_putF (q := 333) 51 dX12_init_330 rfl (by decide) (by decide) (zTbl_i 993 (by decide +kernel) (by decide +kernel)) (by decide) rfl (by decide) g1 rfl rfl (fun z => by cases z) ?_
  have hF := zl_e hF
  generalize pt k22 12 l0 51 (cn (pt (nw (pt (nw k21 86 16) 12 l0 49 (cn k21 86)) 87 16) 12 l0 50 (cn (pt (nw k21 86 16) 12 l0 49 (cn k21 86)) 87)) 88) = k23 at hF ⊢
  refine ex_aload_n (q := 334) dX12_init_333 rfl rfl ?_
  refine ex_iconst (q := 335) dX12_init_334 rfl ⟨by decide, by decide⟩ ?_
  refine ex_put (q := 338) 59 dX12_init_335 rfl fl_X12_129 (by decide) g1 rfl rfl (fun z => by cases z) ?_
  refine ex_aload_n (q := 339) dX12_init_338 rfl rfl ?_
  refine ex_bipush (q := 341) dX12_init_339 rfl (by decide) ⟨by decide, by decide⟩ ?_
  refine ex_newa (q := 343) (n := cn (pt k23 12 l0 59 (-1)) 89) dX12_init_341 rfl kd_89 rfl (by decide) (by decide) (zTbl_i 126 (by decide +kernel) (by decide +kernel)) rfl rfl ?_
  refine ex_putF (q := 346) 63 dX12_init_343 rfl (by decide) (by decide) (zTbl_i 1005 (by decide +kernel) (by decide +kernel)) (by decide) rfl (by decide) g1 rfl rfl (fun z => by cases z) ?_
  refine ex_aload_n (q := 347) dX12_init_346 rfl rfl ?_
  refine ex_bipush (q := 349) dX12_init_347 rfl (by decide) ⟨by decide, by decide⟩ ?_
  refine ex_newa (q := 351) (n := cn (pt (nw (pt k23 12 l0 59 (-1)) 89 60) 12 l0 63 (cn (pt k23 12 l0 59 (-1)) 89)) 90) dX12_init_349 rfl kd_90 rfl (by decide) (by decide) (zTbl_i 126 (by decide +kernel) (by decide +kernel)) rfl rfl ?_
  refine ex_putF (q := 354) 64 dX12_init_351 rfl (by decide) (by decide) (zTbl_i 1006 (by decide +kernel) (by decide +kernel)) (by decide) rfl (by decide) g1 rfl rfl (fun z => by cases z) ?_
  have hF := zl_e hF
  generalize pt (nw (pt (nw (pt k23 12 l0 59 (-1)) 89 60) 12 l0 63 (cn (pt k23 12 l0 59 (-1)) 89)) 90 60) 12 l0 64 (cn (pt (nw (pt k23 12 l0 59 (-1)) 89 60) 12 l0 63 (cn (pt k23 12 l0 59 (-1)) 89)) 90) = k24 at hF ⊢
  refine ex_aload_n (q := 355) dX12_init_354 rfl rfl ?_
  refine ex_bipush (q := 357) dX12_init_355 rfl (by decide) ⟨by decide, by decide⟩ ?_
  refine ex_newa (q := 359) (n := cn k24 91) dX12_init_357 rfl kd_91 rfl (by decide) (by decide) (zTbl_i 126 (by decide +kernel) (by decide +kernel)) rfl rfl ?_
  refine ex_putF (q := 362) 65 dX12_init_359 rfl (by decide) (by decide) (zTbl_i 1007 (by decide +kernel) (by decide +kernel)) (by decide) rfl (by decide) g1 rfl rfl (fun z => by cases z) ?_
  refine ex_aload_n (q := 363) dX12_init_362 rfl rfl ?_
  refine ex_sipush (q := 366) dX12_init_363 rfl (by decide) ⟨by decide, by decide⟩ ?_
  refine ex_newa (q := 368) (n := cn (pt (nw k24 91 60) 12 l0 65 (cn k24 91)) 92) dX12_init_366 rfl kd_92 rfl (by decide) (by decide) (zTbl_i 126 (by decide +kernel) (by decide +kernel)) rfl rfl ?_
  refine ex_putF (q := 371) 66 dX12_init_368 rfl (by decide) (by decide) (zTbl_i 1008 (by decide +kernel) (by decide +kernel)) (by decide) rfl (by decide) g1 rfl rfl (fun z => by cases z) ?_
  obtain ⟨rfl, rfl⟩ := zr hF
  exact ex_ret none rfl ⟨dX12_init_371, rfl⟩ ⟨rfl, rfl⟩
def F_X12_init (l0 : Int) (h : zH) : zO := F_X12_init_0 l0 h
theorem run_X12_init {l0 : Int} {h : zH} {r : Int} {h' : zH} (hF : F_X12_init l0 h = some (r, h')) : Run 1 yX12_init cX12_init 1 none [vr 12 l0] h none h' := run_of (M := M_X12_init) (by decide) rfl (fun _ => rfl) (Nat.le_of_ble_eq_true rfl) (x_X12_init_0 hF)
abbrev M_X12_in : zM := (RX12, (cX12_in, (6, ((some .boolean), false))))
def F_X12_in_0 (l0 l2 l4 : Int) (h : zH) : zO := if lc l0 l2 < 0 then (some (0, h)) else (if 0 < lc l0 l4 then (some (0, h)) else (some (1, h)))
set_option maxHeartbeats 1000000 in
theorem x_X12_in_0 {l0 l2 l4 : Int} {h : zH} {r : Int} {h' : zH} (hF : F_X12_in_0 l0 l2 l4 h = some (r, h')) : Ex 0 M_X12_in 0 [some (vl l0), none, some (vl l2), none, some (vl l4), none] [] h (fun r1 h1 => r1 = some (vi r) ∧ h1 = h') := by
  unfold F_X12_in_0 at hF
  refine ex_lload_n (q := 1) dX12_in_0 rfl rfl ?_
  refine ex_lload_n (q := 2) dX12_in_1 rfl rfl ?_
  refine ex_lcmp (q := 3) dX12_in_2 rfl ?_
  refine ex_if_lt (q := 6) (tgt := 17) dX12_in_3 rfl (by decide) (fun c1 => ?_) (fun c1 => ?_)
  · have hF := ip c1 hF
    refine ex_iconst (q := 18) dX12_in_17 rfl ⟨by decide, by decide⟩ ?_
    obtain ⟨rfl, rfl⟩ := zr hF
    exact ex_ret (some (vi 0)) rfl ⟨dX12_in_18, Or.inr ⟨rfl, (by decide)⟩⟩ ⟨rfl, rfl⟩
  · have hF := im c1 hF
    refine ex_lload_n (q := 7) dX12_in_6 rfl rfl ?_
    refine ex_lload (q := 9) dX12_in_7 rfl rfl ?_
    refine ex_lcmp (q := 10) dX12_in_9 rfl ?_
    refine ex_if_gt (q := 13) (tgt := 17) dX12_in_10 rfl (by decide) (fun c2 => ?_) (fun c2 => ?_)
    · have hF := ip c2 hF
      refine ex_iconst (q := 18) dX12_in_17 rfl ⟨by decide, by decide⟩ ?_
      obtain ⟨rfl, rfl⟩ := zr hF
      exact ex_ret (some (vi 0)) rfl ⟨dX12_in_18, Or.inr ⟨rfl, (by decide)⟩⟩ ⟨rfl, rfl⟩
    · have hF := im c2 hF
      refine ex_iconst (q := 14) dX12_in_13 rfl ⟨by decide, by decide⟩ ?_
      refine ex_goto (q := 18) dX12_in_14 (by decide) ?_
      obtain ⟨rfl, rfl⟩ := zr hF
      exact ex_ret (some (vi 1)) rfl ⟨dX12_in_18, Or.inr ⟨rfl, (by decide)⟩⟩ ⟨rfl, rfl⟩
def F_X12_in (l0 l2 l4 : Int) (h : zH) : zO := F_X12_in_0 l0 l2 l4 h
theorem run_X12_in {l0 l2 l4 : Int} {h : zH} {r : Int} {h' : zH} (hF : F_X12_in l0 l2 l4 h = some (r, h')) : Run 0 yX12_in cX12_in 6 (some .boolean) [vl l0, vl l2, vl l4] h (some (vi r)) h' := run_of (M := M_X12_in) (by decide) rfl (fun z => by cases z) (Nat.le_of_ble_eq_true rfl) (x_X12_in_0 hF)
abbrev M_X12_part : zM := (RX12, (cX12_part, (3, ((some .int), false))))
def F_X12_part_0 (l0 l1 l2 : Int) (h : zH) : zO := zb (F_X12_in l1 0 39 h) (fun r1 h1 => if r1 = 0 then (some ((-102), h1)) else (zb (F_X12_in l2 0 100000 h1) (fun r3 h3 => if r3 ≠ 0 then (if 0 ≤ l0 then (if gt h3 12 l0 0 ≠ 60 then (if 0 ≤ gt h3 12 l0 1 then (if 0 ≤ gt h3 12 l0 0 ∧ gt h3 12 l0 0 < 60 then (if 0 ≤ gt (pt h3 50 (gt h3 12 l0 1) (gt h3 12 l0 0) l1) 12 l0 2 then (if 0 ≤ gt (pt h3 50 (gt h3 12 l0 1) (gt h3 12 l0 0) l1) 12 l0 0 ∧ gt (pt h3 50 (gt h3 12 l0 1) (gt h3 12 l0 0) l1) 12 l0 0 < 60 then (zl (pt (pt h3 50 (gt h3 12 l0 1) (gt h3 12 l0 0) l1) 51 (gt (pt h3 50 (gt h3 12 l0 1) (gt h3 12 l0 0) l1) 12 l0 2) (gt (pt h3 50 (gt h3 12 l0 1) (gt h3 12 l0 0) l1) 12 l0 0) l2) (fun k11 => if 0 ≤ gt k11 12 l0 3 then (if 0 ≤ gt k11 12 l0 0 ∧ gt k11 12 l0 0 < 60 then (zl (pt (pt k11 52 (gt k11 12 l0 3) (gt k11 12 l0 0) 0) 12 l0 0 (wI ((gt (pt k11 52 (gt k11 12 l0 3) (gt k11 12 l0 0) 0) 12 l0 0) + 1))) (fun k14 => some (wI ((gt k14 12 l0 0) - 1), k14))) else none) else none)) else none) else none) else none) else none) else (some ((-104), h3))) else none) else (some ((-102), h3)))))
set_option maxHeartbeats 1000000 in
theorem x_X12_part_0 {l0 l1 l2 : Int} {h : zH} {r : Int} {h' : zH} (hF : F_X12_part_0 l0 l1 l2 h = some (r, h')) : Ex 1 M_X12_part 0 [some (vr 12 l0), some (vi l1), some (vi l2)] [] h (fun r1 h1 => r1 = some (vi r) ∧ h1 = h') := by
  unfold F_X12_part_0 at hF
  refine ex_iload_n (q := 1) dX12_part_0 rfl rfl ?_
  refine ex_i2l (q := 2) dX12_part_1 rfl ?_
  refine ex_lconst (q := 3) 0 dX12_part_2 rfl rfl ⟨by decide, by decide⟩ ?_
  refine ex_ldc2 (q := 6) 39 dX12_part_3 rfl (zTbl_i 1152 (by decide +kernel) (by decide +kernel)) rfl ⟨by decide, by decide⟩ ?_
  obtain ⟨r1, h1, e1, hF⟩ := zb_some hF
  refine ex_callS (d' := 0) (q := 9) (as := [vl l1, vl 0, vl 39]) (st1 := [vi r1]) (r := (some (vi r1))) (h2 := h1) dX12_part_6 rfl (run_X12_in e1) mc_X12_in ms_X12_in ml_X12_147 (by decide) rfl rfl (Nat.le_of_ble_eq_true rfl) rfl ?_
  refine ex_if_eq (q := 12) (tgt := 24) dX12_part_9 rfl (by decide) (fun c2 => ?_) (fun c2 => ?_)
  · have hF := ip c2 hF
    refine ex_bipush (q := 26) dX12_part_24 rfl (by decide) ⟨by decide, by decide⟩ ?_
    obtain ⟨rfl, rfl⟩ := zr hF
    exact ex_ret (some (vi (-102))) rfl ⟨dX12_part_26, Or.inl rfl⟩ ⟨rfl, rfl⟩
  · have hF := im c2 hF
    refine ex_iload_n (q := 13) dX12_part_12 rfl rfl ?_
    refine ex_i2l (q := 14) dX12_part_13 rfl ?_
    refine ex_lconst (q := 15) 0 dX12_part_14 rfl rfl ⟨by decide, by decide⟩ ?_
    refine ex_ldc2 (q := 18) 100000 dX12_part_15 rfl (zTbl_i 1156 (by decide +kernel) (by decide +kernel)) rfl ⟨by decide, by decide⟩ ?_
    obtain ⟨r3, h3, e3, hF⟩ := zb_some hF
    refine ex_callS (d' := 0) (q := 21) (as := [vl l2, vl 0, vl 100000]) (st1 := [vi r3]) (r := (some (vi r3))) (h2 := h3) dX12_part_18 rfl (run_X12_in e3) mc_X12_in ms_X12_in ml_X12_147 (by decide) rfl rfl (Nat.le_of_ble_eq_true rfl) rfl ?_
    refine ex_if_ne (q := 24) (tgt := 27) dX12_part_21 rfl (by decide) (fun c4 => ?_) (fun c4 => ?_)
    · have hF := ip c4 hF
      refine ex_aload_n (q := 28) dX12_part_27 rfl rfl ?_
      obtain ⟨g5, hF⟩ := zg hF
      refine ex_get (q := 31) (v := vi (gt h3 12 l0 0)) 0 dX12_part_28 rfl fl_X12_153 g5 rfl rfl ?_
      refine ex_bipush (q := 33) dX12_part_31 rfl (by decide) ⟨by decide, by decide⟩ ?_
      refine ex_icmp_ne (q := 36) (tgt := 39) dX12_part_33 rfl (by decide) (fun c6 => ?_) (fun c6 => ?_)
      · have hF := ip c6 hF
        refine ex_aload_n (q := 40) dX12_part_39 rfl rfl ?_
        refine ex_get (q := 43) (v := vr 50 (gt h3 12 l0 1)) 1 dX12_part_40 rfl fl_X12_7 g5 rfl rfl ?_
        refine ex_aload_n (q := 44) dX12_part_43 rfl rfl ?_
        refine ex_get (q := 47) (v := vi (gt h3 12 l0 0)) 0 dX12_part_44 rfl fl_X12_153 g5 rfl rfl ?_
        refine ex_iload_n (q := 48) dX12_part_47 rfl rfl ?_
        obtain ⟨g7, hF⟩ := zg hF
        obtain ⟨g8, hF⟩ := zg hF
        refine ex_iast (q := 49) dX12_part_48 rfl kd_50 g7 g8.1 g8.2 ?_
        refine ex_aload_n (q := 50) dX12_part_49 rfl rfl ?_
        refine ex_get (q := 53) (v := vr 51 (gt (pt h3 50 (gt h3 12 l0 1) (gt h3 12 l0 0) l1) 12 l0 2)) 2 dX12_part_50 rfl fl_X12_13 g5 rfl rfl ?_
        refine ex_aload_n (q := 54) dX12_part_53 rfl rfl ?_
        refine ex_get (q := 57) (v := vi (gt (pt h3 50 (gt h3 12 l0 1) (gt h3 12 l0 0) l1) 12 l0 0)) 0 dX12_part_54 rfl fl_X12_153 g5 rfl rfl ?_
        refine ex_iload_n (q := 58) dX12_part_57 rfl rfl ?_
        obtain ⟨g9, hF⟩ := zg hF
        obtain ⟨g10, hF⟩ := zg hF
        refine ex_iast (q := 59) dX12_part_58 rfl kd_51 g9 g10.1 g10.2 ?_
        have hF := zl_e hF
        generalize pt (pt h3 50 (gt h3 12 l0 1) (gt h3 12 l0 0) l1) 51 (gt (pt h3 50 (gt h3 12 l0 1) (gt h3 12 l0 0) l1) 12 l0 2) (gt (pt h3 50 (gt h3 12 l0 1) (gt h3 12 l0 0) l1) 12 l0 0) l2 = k11 at hF ⊢
        refine ex_aload_n (q := 60) dX12_part_59 rfl rfl ?_
        refine ex_get (q := 63) (v := vr 52 (gt k11 12 l0 3)) 3 dX12_part_60 rfl fl_X12_16 g5 rfl rfl ?_
        refine ex_aload_n (q := 64) dX12_part_63 rfl rfl ?_
        refine ex_get (q := 67) (v := vi (gt k11 12 l0 0)) 0 dX12_part_64 rfl fl_X12_153 g5 rfl rfl ?_
        refine ex_iconst (q := 68) dX12_part_67 rfl ⟨by decide, by decide⟩ ?_
        obtain ⟨g12, hF⟩ := zg hF
        obtain ⟨g13, hF⟩ := zg hF
        refine ex_iast (q := 69) dX12_part_68 rfl kd_52 g12 g13.1 g13.2 ?_
        refine ex_aload_n (q := 70) dX12_part_69 rfl rfl ?_
        refine ex_dup (q := 71) dX12_part_70 rfl (fun _ z => by cases z) ?_
        refine ex_get (q := 74) (v := vi (gt (pt k11 52 (gt k11 12 l0 3) (gt k11 12 l0 0) 0) 12 l0 0)) 0 dX12_part_71 rfl fl_X12_153 g5 rfl rfl ?_
        refine ex_iconst (q := 75) dX12_part_74 rfl ⟨by decide, by decide⟩ ?_
        refine ex_iadd (q := 76) dX12_part_75 rfl ?_
        refine ex_put (q := 79) 0 dX12_part_76 rfl fl_X12_153 (by decide) g5 rfl rfl (fun z => by cases z) ?_
        have hF := zl_e hF
        generalize pt (pt k11 52 (gt k11 12 l0 3) (gt k11 12 l0 0) 0) 12 l0 0 (wI ((gt (pt k11 52 (gt k11 12 l0 3) (gt k11 12 l0 0) 0) 12 l0 0) + 1)) = k14 at hF ⊢
        refine ex_aload_n (q := 80) dX12_part_79 rfl rfl ?_
        refine ex_get (q := 83) (v := vi (gt k14 12 l0 0)) 0 dX12_part_80 rfl fl_X12_153 g5 rfl rfl ?_
        refine ex_iconst (q := 84) dX12_part_83 rfl ⟨by decide, by decide⟩ ?_
        refine ex_isub (q := 85) dX12_part_84 rfl ?_
        obtain ⟨rfl, rfl⟩ := zr hF
        exact ex_ret (some (vi (wI ((gt k14 12 l0 0) - 1)))) rfl ⟨dX12_part_85, Or.inl rfl⟩ ⟨rfl, rfl⟩
      · have hF := im c6 hF
        refine ex_bipush (q := 38) dX12_part_36 rfl (by decide) ⟨by decide, by decide⟩ ?_
        obtain ⟨rfl, rfl⟩ := zr hF
        exact ex_ret (some (vi (-104))) rfl ⟨dX12_part_38, Or.inl rfl⟩ ⟨rfl, rfl⟩
    · have hF := im c4 hF
      refine ex_bipush (q := 26) dX12_part_24 rfl (by decide) ⟨by decide, by decide⟩ ?_
      obtain ⟨rfl, rfl⟩ := zr hF
      exact ex_ret (some (vi (-102))) rfl ⟨dX12_part_26, Or.inl rfl⟩ ⟨rfl, rfl⟩
def F_X12_part (l0 l1 l2 : Int) (h : zH) : zO := F_X12_part_0 l0 l1 l2 h
theorem run_X12_part {l0 l1 l2 : Int} {h : zH} {r : Int} {h' : zH} (hF : F_X12_part l0 l1 l2 h = some (r, h')) : Run 1 yX12_part cX12_part 3 (some .int) [vr 12 l0, vi l1, vi l2] h (some (vi r)) h' := run_of (M := M_X12_part) (by decide) rfl (fun z => by cases z) (Nat.le_of_ble_eq_true rfl) (x_X12_part_0 hF)
abbrev M_X12_noPart : zM := (RX12, (cX12_noPart, (2, ((some .boolean), false))))
def F_X12_noPart_0 (l0 l1 : Int) (h : zH) : zO := if 0 ≤ l0 then (zb (F_X12_in l1 0 (wI ((gt h 12 l0 0) - 1)) h) (fun r2 h2 => if r2 ≠ 0 then (some (0, h2)) else (some (1, h2)))) else none
set_option maxHeartbeats 1000000 in
theorem x_X12_noPart_0 {l0 l1 : Int} {h : zH} {r : Int} {h' : zH} (hF : F_X12_noPart_0 l0 l1 h = some (r, h')) : Ex 1 M_X12_noPart 0 [some (vr 12 l0), some (vi l1)] [] h (fun r1 h1 => r1 = some (vi r) ∧ h1 = h') := by
  unfold F_X12_noPart_0 at hF
  refine ex_iload_n (q := 1) dX12_noPart_0 rfl rfl ?_
  refine ex_i2l (q := 2) dX12_noPart_1 rfl ?_
  refine ex_lconst (q := 3) 0 dX12_noPart_2 rfl rfl ⟨by decide, by decide⟩ ?_
  refine ex_aload_n (q := 4) dX12_noPart_3 rfl rfl ?_
  obtain ⟨g1, hF⟩ := zg hF
  refine ex_get (q := 7) (v := vi (gt h 12 l0 0)) 0 dX12_noPart_4 rfl fl_X12_153 g1 rfl rfl ?_
  refine ex_iconst (q := 8) dX12_noPart_7 rfl ⟨by decide, by decide⟩ ?_
  refine ex_isub (q := 9) dX12_noPart_8 rfl ?_
  refine ex_i2l (q := 10) dX12_noPart_9 rfl ?_
  obtain ⟨r2, h2, e2, hF⟩ := zb_some hF
  refine ex_callS (d' := 0) (q := 13) (as := [vl l1, vl 0, vl (wI ((gt h 12 l0 0) - 1))]) (st1 := [vi r2]) (r := (some (vi r2))) (h2 := h2) dX12_noPart_10 rfl (run_X12_in e2) mc_X12_in ms_X12_in ml_X12_147 (by decide) rfl rfl (Nat.le_of_ble_eq_true rfl) rfl ?_
  refine ex_if_ne (q := 16) (tgt := 20) dX12_noPart_13 rfl (by decide) (fun c3 => ?_) (fun c3 => ?_)
  · have hF := ip c3 hF
    refine ex_iconst (q := 21) dX12_noPart_20 rfl ⟨by decide, by decide⟩ ?_
    obtain ⟨rfl, rfl⟩ := zr hF
    exact ex_ret (some (vi 0)) rfl ⟨dX12_noPart_21, Or.inr ⟨rfl, (by decide)⟩⟩ ⟨rfl, rfl⟩
  · have hF := im c3 hF
    refine ex_iconst (q := 17) dX12_noPart_16 rfl ⟨by decide, by decide⟩ ?_
    refine ex_goto (q := 21) dX12_noPart_17 (by decide) ?_
    obtain ⟨rfl, rfl⟩ := zr hF
    exact ex_ret (some (vi 1)) rfl ⟨dX12_noPart_21, Or.inr ⟨rfl, (by decide)⟩⟩ ⟨rfl, rfl⟩
def F_X12_noPart (l0 l1 : Int) (h : zH) : zO := F_X12_noPart_0 l0 l1 h
theorem run_X12_noPart {l0 l1 : Int} {h : zH} {r : Int} {h' : zH} (hF : F_X12_noPart l0 l1 h = some (r, h')) : Run 1 yX12_noPart cX12_noPart 2 (some .boolean) [vr 12 l0, vi l1] h (some (vi r)) h' := run_of (M := M_X12_noPart) (by decide) rfl (fun z => by cases z) (Nat.le_of_ble_eq_true rfl) (x_X12_noPart_0 hF)
abbrev M_X12_state : zM := (RX12, (cX12_state, (2, ((some .int), false))))
def F_X12_state_0 (l0 l1 : Int) (h : zH) : zO := if 0 ≤ l0 then (zb (F_X12_noPart l0 l1 h) (fun r1 h1 => if r1 = 0 then (if 0 ≤ gt h1 12 l0 3 then (if 0 ≤ l1 ∧ l1 < 60 then (some (gt h1 52 (gt h1 12 l0 3) l1, h1)) else none) else none) else (some ((-101), h1)))) else none
set_option maxHeartbeats 1000000 in
theorem x_X12_state_0 {l0 l1 : Int} {h : zH} {r : Int} {h' : zH} (hF : F_X12_state_0 l0 l1 h = some (r, h')) : Ex 2 M_X12_state 0 [some (vr 12 l0), some (vi l1)] [] h (fun r1 h1 => r1 = some (vi r) ∧ h1 = h') := by
  unfold F_X12_state_0 at hF
  refine ex_aload_n (q := 1) dX12_state_0 rfl rfl ?_
  refine ex_iload_n (q := 2) dX12_state_1 rfl rfl ?_
  obtain ⟨g2, hF⟩ := zg hF
  obtain ⟨r1, h1, e1, hF⟩ := zb_some hF
  refine ex_callV (d' := 1) (q := 5) (as := [vi l1]) (st1 := [vi r1]) (r := (some (vi r1))) (h2 := h1) dX12_state_2 rfl (run_X12_noPart e1) mc_X12_noPart mv_X12_noPart ml_X12_156 (by decide) g2 rfl rfl (Nat.le_of_ble_eq_true rfl) rfl ?_
  refine ex_if_eq (q := 8) (tgt := 13) dX12_state_5 rfl (by decide) (fun c3 => ?_) (fun c3 => ?_)
  · have hF := ip c3 hF
    refine ex_aload_n (q := 14) dX12_state_13 rfl rfl ?_
    refine ex_get (q := 17) (v := vr 52 (gt h1 12 l0 3)) 3 dX12_state_14 rfl fl_X12_16 g2 rfl rfl ?_
    refine ex_iload_n (q := 18) dX12_state_17 rfl rfl ?_
    obtain ⟨g4, hF⟩ := zg hF
    obtain ⟨g5, hF⟩ := zg hF
    refine ex_iald (q := 19) dX12_state_18 rfl kd_52 g4 g5.1 g5.2 ?_
    obtain ⟨rfl, rfl⟩ := zr hF
    exact ex_ret (some (vi (gt h1 52 (gt h1 12 l0 3) l1))) rfl ⟨dX12_state_19, Or.inl rfl⟩ ⟨rfl, rfl⟩
  · have hF := im c3 hF
    refine ex_bipush (q := 10) dX12_state_8 rfl (by decide) ⟨by decide, by decide⟩ ?_
    refine ex_goto (q := 19) dX12_state_10 (by decide) ?_
    obtain ⟨rfl, rfl⟩ := zr hF
    exact ex_ret (some (vi (-101))) rfl ⟨dX12_state_19, Or.inl rfl⟩ ⟨rfl, rfl⟩
def F_X12_state (l0 l1 : Int) (h : zH) : zO := F_X12_state_0 l0 l1 h
theorem run_X12_state {l0 l1 : Int} {h : zH} {r : Int} {h' : zH} (hF : F_X12_state l0 l1 h = some (r, h')) : Run 2 yX12_state cX12_state 2 (some .int) [vr 12 l0, vi l1] h (some (vi r)) h' := run_of (M := M_X12_state) (by decide) rfl (fun z => by cases z) (Nat.le_of_ble_eq_true rfl) (x_X12_state_0 hF)
abbrev M_X12_clean : zM := (RX12, (cX12_clean, (4, ((some .int), false))))
def F_X12_clean_59b (ag59 : Int → Int → Int → zH → zO) (l0 l2 l3 : Int) (h : zH) : zO := if 0 ≤ l0 then (if gt h 12 l0 4 ≤ l3 then (some (l2, (pt h 12 l0 4 (wI ((gt h 12 l0 4) - l2))))) else (if 0 ≤ gt h 12 l0 5 then (if 0 ≤ l3 ∧ l3 < 60 then (if 0 ≤ wI (l3 - l2) ∧ wI (l3 - l2) < 60 then (ag59 l0 l2 (wI (l3 + 1)) (pt h 53 (gt h 12 l0 5) (wI (l3 - l2)) (gt h 53 (gt h 12 l0 5) l3))) else none) else none) else none)) else none
set_option maxHeartbeats 1000000 in
theorem x_X12_clean_59b {ag59 : Int → Int → Int → zH → zO} (hag59 : ∀ (l0 l2 l3 : Int) (h : zH) (r : Int) (h' : zH), ag59 l0 l2 l3 h = some (r, h') → Ex 1 M_X12_clean 59 [some (vr 12 l0), none, some (vi l2), some (vi l3)] [] h (fun r1 h1 => r1 = some (vi r) ∧ h1 = h')) {l0 l2 l3 : Int} {h : zH} {r : Int} {h' : zH} (hF : F_X12_clean_59b ag59 l0 l2 l3 h = some (r, h')) : Ex 1 M_X12_clean 59 [some (vr 12 l0), none, some (vi l2), some (vi l3)] [] h (fun r1 h1 => r1 = some (vi r) ∧ h1 = h') := by
  unfold F_X12_clean_59b at hF
  refine ex_iload_n (q := 60) dX12_clean_59 rfl rfl ?_
  refine ex_aload_n (q := 61) dX12_clean_60 rfl rfl ?_
  obtain ⟨g1, hF⟩ := zg hF
  refine ex_get (q := 64) (v := vi (gt h 12 l0 4)) 4 dX12_clean_61 rfl fl_X12_162 g1 rfl rfl ?_
  refine ex_icmp_ge (q := 67) (tgt := 87) dX12_clean_64 rfl (by decide) (fun c2 => ?_) (fun c2 => ?_)
  · have hF := ip c2 hF
    refine ex_aload_n (q := 88) dX12_clean_87 rfl rfl ?_
    refine ex_dup (q := 89) dX12_clean_88 rfl (fun _ z => by cases z) ?_
    refine ex_get (q := 92) (v := vi (gt h 12 l0 4)) 4 dX12_clean_89 rfl fl_X12_162 g1 rfl rfl ?_
    refine ex_iload_n (q := 93) dX12_clean_92 rfl rfl ?_
    refine ex_isub (q := 94) dX12_clean_93 rfl ?_
    refine ex_put (q := 97) 4 dX12_clean_94 rfl fl_X12_162 (by decide) g1 rfl rfl (fun z => by cases z) ?_
    refine ex_iload_n (q := 98) dX12_clean_97 rfl rfl ?_
    obtain ⟨rfl, rfl⟩ := zr hF
    exact ex_ret (some (vi l2)) rfl ⟨dX12_clean_98, Or.inl rfl⟩ ⟨rfl, rfl⟩
  · have hF := im c2 hF
    refine ex_aload_n (q := 68) dX12_clean_67 rfl rfl ?_
    refine ex_get (q := 71) (v := vr 53 (gt h 12 l0 5)) 5 dX12_clean_68 rfl fl_X12_19 g1 rfl rfl ?_
    refine ex_iload_n (q := 72) dX12_clean_71 rfl rfl ?_
    refine ex_iload_n (q := 73) dX12_clean_72 rfl rfl ?_
    refine ex_isub (q := 74) dX12_clean_73 rfl ?_
    refine ex_aload_n (q := 75) dX12_clean_74 rfl rfl ?_
    refine ex_get (q := 78) (v := vr 53 (gt h 12 l0 5)) 5 dX12_clean_75 rfl fl_X12_19 g1 rfl rfl ?_
    refine ex_iload_n (q := 79) dX12_clean_78 rfl rfl ?_
    obtain ⟨g3, hF⟩ := zg hF
    obtain ⟨g4, hF⟩ := zg hF
    refine ex_iald (q := 80) dX12_clean_79 rfl kd_53 g3 g4.1 g4.2 ?_
    obtain ⟨g5, hF⟩ := zg hF
    refine ex_iast (q := 81) dX12_clean_80 rfl kd_53 g3 g5.1 g5.2 ?_
    refine ex_iinc (q := 84) (lo' := [some (vr 12 l0), none, some (vi l2), some (vi (wI (l3 + 1)))]) dX12_clean_81 rfl rfl (by decide) rfl rfl ?_
    refine ex_goto (q := 59) dX12_clean_84 (by decide) ?_
    exact ex_forget (lo' := [some (vr 12 l0), none, some (vi l2), some (vi (wI (l3 + 1)))]) ⟨Or.inr rfl, Or.inl rfl, Or.inr rfl, Or.inr rfl, trivial⟩ (hag59 _ _ _ _ _ _ hF)
def F_X12_clean_59 : Nat → Int → Int → Int → zH → zO
  | 0, _, _, _, _ => none
  | n + 1, l0, l2, l3, h => F_X12_clean_59b (F_X12_clean_59 n) l0 l2 l3 h
theorem x_X12_clean_59 : ∀ (n : Nat) (l0 l2 l3 : Int) (h : zH) (r : Int) (h' : zH), F_X12_clean_59 n l0 l2 l3 h = some (r, h') → Ex 1 M_X12_clean 59 [some (vr 12 l0), none, some (vi l2), some (vi l3)] [] h (fun r1 h1 => r1 = some (vi r) ∧ h1 = h')
  | 0, _, _, _, _, _, _, hF => by cases hF
  | n + 1, _, _, _, _, _, _, hF => x_X12_clean_59b (x_X12_clean_59 n) hF
def F_X12_clean_34b (ag34 : Int → Int → Int → zH → zO) (l0 l2 l3 : Int) (h : zH) : zO := if l2 ≤ l3 then (F_X12_clean_59 zF l0 l2 l2 h) else (if 0 ≤ l0 then (if 0 ≤ gt h 12 l0 5 then (if 0 ≤ l3 ∧ l3 < 60 then (if 0 ≤ gt h 12 l0 3 then (if 0 ≤ gt h 53 (gt h 12 l0 5) l3 ∧ gt h 53 (gt h 12 l0 5) l3 < 60 then (ag34 l0 l2 (wI (l3 + 1)) (pt h 52 (gt h 12 l0 3) (gt h 53 (gt h 12 l0 5) l3) 0)) else none) else none) else none) else none) else none)
set_option maxHeartbeats 1000000 in
theorem x_X12_clean_34b {ag34 : Int → Int → Int → zH → zO} (hag34 : ∀ (l0 l2 l3 : Int) (h : zH) (r : Int) (h' : zH), ag34 l0 l2 l3 h = some (r, h') → Ex 1 M_X12_clean 34 [some (vr 12 l0), none, some (vi l2), some (vi l3)] [] h (fun r1 h1 => r1 = some (vi r) ∧ h1 = h')) {l0 l2 l3 : Int} {h : zH} {r : Int} {h' : zH} (hF : F_X12_clean_34b ag34 l0 l2 l3 h = some (r, h')) : Ex 1 M_X12_clean 34 [some (vr 12 l0), none, some (vi l2), some (vi l3)] [] h (fun r1 h1 => r1 = some (vi r) ∧ h1 = h') := by
  unfold F_X12_clean_34b at hF
  refine ex_iload_n (q := 35) dX12_clean_34 rfl rfl ?_
  refine ex_iload_n (q := 36) dX12_clean_35 rfl rfl ?_
  refine ex_icmp_ge (q := 39) (tgt := 57) dX12_clean_36 rfl (by decide) (fun c1 => ?_) (fun c1 => ?_)
  · have hF := ip c1 hF
    refine ex_iload_n (q := 58) dX12_clean_57 rfl rfl ?_
    refine ex_istore_n (q := 59) (lo' := [some (vr 12 l0), none, some (vi l2), some (vi l2)]) dX12_clean_58 rfl (by decide) rfl rfl ?_
    exact ex_forget (lo' := [some (vr 12 l0), none, some (vi l2), some (vi l2)]) ⟨Or.inr rfl, Or.inl rfl, Or.inr rfl, Or.inr rfl, trivial⟩ (x_X12_clean_59 _ _ _ _ _ _ _ hF)
  · have hF := im c1 hF
    refine ex_aload_n (q := 40) dX12_clean_39 rfl rfl ?_
    obtain ⟨g2, hF⟩ := zg hF
    refine ex_get (q := 43) (v := vr 52 (gt h 12 l0 3)) 3 dX12_clean_40 rfl fl_X12_16 g2 rfl rfl ?_
    refine ex_aload_n (q := 44) dX12_clean_43 rfl rfl ?_
    refine ex_get (q := 47) (v := vr 53 (gt h 12 l0 5)) 5 dX12_clean_44 rfl fl_X12_19 g2 rfl rfl ?_
    refine ex_iload_n (q := 48) dX12_clean_47 rfl rfl ?_
    obtain ⟨g3, hF⟩ := zg hF
    obtain ⟨g4, hF⟩ := zg hF
    refine ex_iald (q := 49) dX12_clean_48 rfl kd_53 g3 g4.1 g4.2 ?_
    refine ex_iconst (q := 50) dX12_clean_49 rfl ⟨by decide, by decide⟩ ?_
    obtain ⟨g5, hF⟩ := zg hF
    obtain ⟨g6, hF⟩ := zg hF
    refine ex_iast (q := 51) dX12_clean_50 rfl kd_52 g5 g6.1 g6.2 ?_
    refine ex_iinc (q := 54) (lo' := [some (vr 12 l0), none, some (vi l2), some (vi (wI (l3 + 1)))]) dX12_clean_51 rfl rfl (by decide) rfl rfl ?_
    refine ex_goto (q := 34) dX12_clean_54 (by decide) ?_
    exact ex_forget (lo' := [some (vr 12 l0), none, some (vi l2), some (vi (wI (l3 + 1)))]) ⟨Or.inr rfl, Or.inl rfl, Or.inr rfl, Or.inr rfl, trivial⟩ (hag34 _ _ _ _ _ _ hF)
def F_X12_clean_34 : Nat → Int → Int → Int → zH → zO
  | 0, _, _, _, _ => none
  | n + 1, l0, l2, l3, h => F_X12_clean_34b (F_X12_clean_34 n) l0 l2 l3 h
theorem x_X12_clean_34 : ∀ (n : Nat) (l0 l2 l3 : Int) (h : zH) (r : Int) (h' : zH), F_X12_clean_34 n l0 l2 l3 h = some (r, h') → Ex 1 M_X12_clean 34 [some (vr 12 l0), none, some (vi l2), some (vi l3)] [] h (fun r1 h1 => r1 = some (vi r) ∧ h1 = h')
  | 0, _, _, _, _, _, _, hF => by cases hF
  | n + 1, _, _, _, _, _, _, hF => x_X12_clean_34b (x_X12_clean_34 n) hF
def F_X12_clean_0 (l0 l1 : Int) (h : zH) : zO := zb (F_X12_in l1 0 60 h) (fun r1 h1 => if r1 ≠ 0 then (if 0 ≤ l0 then (if gt h1 12 l0 4 ≤ l1 then (F_X12_clean_34 zF l0 (gt h1 12 l0 4) 0 h1) else (F_X12_clean_34 zF l0 l1 0 h1)) else none) else (some ((-102), h1)))
set_option maxHeartbeats 1000000 in
theorem x_X12_clean_0 {l0 l1 : Int} {h : zH} {r : Int} {h' : zH} (hF : F_X12_clean_0 l0 l1 h = some (r, h')) : Ex 1 M_X12_clean 0 [some (vr 12 l0), some (vi l1), none, none] [] h (fun r1 h1 => r1 = some (vi r) ∧ h1 = h') := by
  unfold F_X12_clean_0 at hF
  refine ex_iload_n (q := 1) dX12_clean_0 rfl rfl ?_
  refine ex_i2l (q := 2) dX12_clean_1 rfl ?_
  refine ex_lconst (q := 3) 0 dX12_clean_2 rfl rfl ⟨by decide, by decide⟩ ?_
  refine ex_ldc2 (q := 6) 60 dX12_clean_3 rfl (zTbl_i 1169 (by decide +kernel) (by decide +kernel)) rfl ⟨by decide, by decide⟩ ?_
  obtain ⟨r1, h1, e1, hF⟩ := zb_some hF
  refine ex_callS (d' := 0) (q := 9) (as := [vl l1, vl 0, vl 60]) (st1 := [vi r1]) (r := (some (vi r1))) (h2 := h1) dX12_clean_6 rfl (run_X12_in e1) mc_X12_in ms_X12_in ml_X12_147 (by decide) rfl rfl (Nat.le_of_ble_eq_true rfl) rfl ?_
  refine ex_if_ne (q := 12) (tgt := 15) dX12_clean_9 rfl (by decide) (fun c2 => ?_) (fun c2 => ?_)
  · have hF := ip c2 hF
    refine ex_iload_n (q := 16) dX12_clean_15 rfl rfl ?_
    refine ex_aload_n (q := 17) dX12_clean_16 rfl rfl ?_
    obtain ⟨g3, hF⟩ := zg hF
    refine ex_get (q := 20) (v := vi (gt h1 12 l0 4)) 4 dX12_clean_17 rfl fl_X12_162 g3 rfl rfl ?_
    refine ex_icmp_ge (q := 23) (tgt := 27) dX12_clean_20 rfl (by decide) (fun c4 => ?_) (fun c4 => ?_)
    · have hF := ip c4 hF
      refine ex_aload_n (q := 28) dX12_clean_27 rfl rfl ?_
      refine ex_get (q := 31) (v := vi (gt h1 12 l0 4)) 4 dX12_clean_28 rfl fl_X12_162 g3 rfl rfl ?_
      refine ex_istore_n (q := 32) (lo' := [some (vr 12 l0), some (vi l1), some (vi (gt h1 12 l0 4)), none]) dX12_clean_31 rfl (by decide) rfl rfl ?_
      refine ex_iconst (q := 33) dX12_clean_32 rfl ⟨by decide, by decide⟩ ?_
      refine ex_istore_n (q := 34) (lo' := [some (vr 12 l0), some (vi l1), some (vi (gt h1 12 l0 4)), some (vi 0)]) dX12_clean_33 rfl (by decide) rfl rfl ?_
      exact ex_forget (lo' := [some (vr 12 l0), none, some (vi (gt h1 12 l0 4)), some (vi 0)]) ⟨Or.inr rfl, Or.inl rfl, Or.inr rfl, Or.inr rfl, trivial⟩ (x_X12_clean_34 _ _ _ _ _ _ _ hF)
    · have hF := im c4 hF
      refine ex_iload_n (q := 24) dX12_clean_23 rfl rfl ?_
      refine ex_goto (q := 31) dX12_clean_24 (by decide) ?_
      refine ex_istore_n (q := 32) (lo' := [some (vr 12 l0), some (vi l1), some (vi l1), none]) dX12_clean_31 rfl (by decide) rfl rfl ?_
      refine ex_iconst (q := 33) dX12_clean_32 rfl ⟨by decide, by decide⟩ ?_
      refine ex_istore_n (q := 34) (lo' := [some (vr 12 l0), some (vi l1), some (vi l1), some (vi 0)]) dX12_clean_33 rfl (by decide) rfl rfl ?_
      exact ex_forget (lo' := [some (vr 12 l0), none, some (vi l1), some (vi 0)]) ⟨Or.inr rfl, Or.inl rfl, Or.inr rfl, Or.inr rfl, trivial⟩ (x_X12_clean_34 _ _ _ _ _ _ _ hF)
  · have hF := im c2 hF
    refine ex_bipush (q := 14) dX12_clean_12 rfl (by decide) ⟨by decide, by decide⟩ ?_
    obtain ⟨rfl, rfl⟩ := zr hF
    exact ex_ret (some (vi (-102))) rfl ⟨dX12_clean_14, Or.inl rfl⟩ ⟨rfl, rfl⟩
def F_X12_clean (l0 l1 : Int) (h : zH) : zO := F_X12_clean_0 l0 l1 h
theorem run_X12_clean {l0 l1 : Int} {h : zH} {r : Int} {h' : zH} (hF : F_X12_clean l0 l1 h = some (r, h')) : Run 1 yX12_clean cX12_clean 4 (some .int) [vr 12 l0, vi l1] h (some (vi r)) h' := run_of (M := M_X12_clean) (by decide) rfl (fun z => by cases z) (Nat.le_of_ble_eq_true rfl) (x_X12_clean_0 hF)
abbrev M_X12_cleaning : zM := (RX12, (cX12_cleaning, (2, ((some .int), false))))
def F_X12_cleaning_0 (l0 l1 : Int) (h : zH) : zO := if 0 ≤ l0 then (zb (F_X12_in l1 0 (wI ((gt h 12 l0 4) - 1)) h) (fun r2 h2 => if r2 = 0 then (some ((-1), h2)) else (if 0 ≤ gt h2 12 l0 5 then (if 0 ≤ l1 ∧ l1 < 60 then (some (gt h2 53 (gt h2 12 l0 5) l1, h2)) else none) else none))) else none
set_option maxHeartbeats 1000000 in
theorem x_X12_cleaning_0 {l0 l1 : Int} {h : zH} {r : Int} {h' : zH} (hF : F_X12_cleaning_0 l0 l1 h = some (r, h')) : Ex 1 M_X12_cleaning 0 [some (vr 12 l0), some (vi l1)] [] h (fun r1 h1 => r1 = some (vi r) ∧ h1 = h') := by
  unfold F_X12_cleaning_0 at hF
  refine ex_iload_n (q := 1) dX12_cleaning_0 rfl rfl ?_
  refine ex_i2l (q := 2) dX12_cleaning_1 rfl ?_
  refine ex_lconst (q := 3) 0 dX12_cleaning_2 rfl rfl ⟨by decide, by decide⟩ ?_
  refine ex_aload_n (q := 4) dX12_cleaning_3 rfl rfl ?_
  obtain ⟨g1, hF⟩ := zg hF
  refine ex_get (q := 7) (v := vi (gt h 12 l0 4)) 4 dX12_cleaning_4 rfl fl_X12_162 g1 rfl rfl ?_
  refine ex_iconst (q := 8) dX12_cleaning_7 rfl ⟨by decide, by decide⟩ ?_
  refine ex_isub (q := 9) dX12_cleaning_8 rfl ?_
  refine ex_i2l (q := 10) dX12_cleaning_9 rfl ?_
  obtain ⟨r2, h2, e2, hF⟩ := zb_some hF
  refine ex_callS (d' := 0) (q := 13) (as := [vl l1, vl 0, vl (wI ((gt h 12 l0 4) - 1))]) (st1 := [vi r2]) (r := (some (vi r2))) (h2 := h2) dX12_cleaning_10 rfl (run_X12_in e2) mc_X12_in ms_X12_in ml_X12_147 (by decide) rfl rfl (Nat.le_of_ble_eq_true rfl) rfl ?_
  refine ex_if_eq (q := 16) (tgt := 25) dX12_cleaning_13 rfl (by decide) (fun c3 => ?_) (fun c3 => ?_)
  · have hF := ip c3 hF
    refine ex_iconst (q := 26) dX12_cleaning_25 rfl ⟨by decide, by decide⟩ ?_
    obtain ⟨rfl, rfl⟩ := zr hF
    exact ex_ret (some (vi (-1))) rfl ⟨dX12_cleaning_26, Or.inl rfl⟩ ⟨rfl, rfl⟩
  · have hF := im c3 hF
    refine ex_aload_n (q := 17) dX12_cleaning_16 rfl rfl ?_
    refine ex_get (q := 20) (v := vr 53 (gt h2 12 l0 5)) 5 dX12_cleaning_17 rfl fl_X12_19 g1 rfl rfl ?_
    refine ex_iload_n (q := 21) dX12_cleaning_20 rfl rfl ?_
    obtain ⟨g4, hF⟩ := zg hF
    obtain ⟨g5, hF⟩ := zg hF
    refine ex_iald (q := 22) dX12_cleaning_21 rfl kd_53 g4 g5.1 g5.2 ?_
    refine ex_goto (q := 26) dX12_cleaning_22 (by decide) ?_
    obtain ⟨rfl, rfl⟩ := zr hF
    exact ex_ret (some (vi (gt h2 53 (gt h2 12 l0 5) l1))) rfl ⟨dX12_cleaning_26, Or.inl rfl⟩ ⟨rfl, rfl⟩
def F_X12_cleaning (l0 l1 : Int) (h : zH) : zO := F_X12_cleaning_0 l0 l1 h
theorem run_X12_cleaning {l0 l1 : Int} {h : zH} {r : Int} {h' : zH} (hF : F_X12_cleaning l0 l1 h = some (r, h')) : Run 1 yX12_cleaning cX12_cleaning 2 (some .int) [vr 12 l0, vi l1] h (some (vi r)) h' := run_of (M := M_X12_cleaning) (by decide) rfl (fun z => by cases z) (Nat.le_of_ble_eq_true rfl) (x_X12_cleaning_0 hF)
abbrev M_X12_plan : zM := (RX12, (cX12_plan, (4, ((some .int), false))))
def F_X12_plan_0 (l0 l1 l2 l3 : Int) (h : zH) : zO := if 0 ≤ l0 then (zb (F_X12_noPart l0 l1 h) (fun r1 h1 => if r1 = 0 then (zb (F_X12_in l2 1 20 h1) (fun r4 h4 => if r4 = 0 then (some ((-102), h4)) else (zb (F_X12_in l3 0 1 h4) (fun r6 h6 => if r6 ≠ 0 then (if gt h6 12 l0 6 ≠ 30 then (if 0 ≤ gt h6 12 l0 7 then (if 0 ≤ gt h6 12 l0 6 ∧ gt h6 12 l0 6 < 30 then (if 0 ≤ gt (pt h6 54 (gt h6 12 l0 7) (gt h6 12 l0 6) l1) 12 l0 8 then (if 0 ≤ gt (pt h6 54 (gt h6 12 l0 7) (gt h6 12 l0 6) l1) 12 l0 6 ∧ gt (pt h6 54 (gt h6 12 l0 7) (gt h6 12 l0 6) l1) 12 l0 6 < 30 then (zl (pt (pt h6 54 (gt h6 12 l0 7) (gt h6 12 l0 6) l1) 55 (gt (pt h6 54 (gt h6 12 l0 7) (gt h6 12 l0 6) l1) 12 l0 8) (gt (pt h6 54 (gt h6 12 l0 7) (gt h6 12 l0 6) l1) 12 l0 6) l2) (fun k13 => if 0 ≤ gt k13 12 l0 9 then (if 0 ≤ gt k13 12 l0 6 ∧ gt k13 12 l0 6 < 30 then (if 0 ≤ gt (pt k13 56 (gt k13 12 l0 9) (gt k13 12 l0 6) l3) 12 l0 10 then (if 0 ≤ gt (pt k13 56 (gt k13 12 l0 9) (gt k13 12 l0 6) l3) 12 l0 6 ∧ gt (pt k13 56 (gt k13 12 l0 9) (gt k13 12 l0 6) l3) 12 l0 6 < 30 then (zl (pt (pt k13 56 (gt k13 12 l0 9) (gt k13 12 l0 6) l3) 57 (gt (pt k13 56 (gt k13 12 l0 9) (gt k13 12 l0 6) l3) 12 l0 10) (gt (pt k13 56 (gt k13 12 l0 9) (gt k13 12 l0 6) l3) 12 l0 6) 0) (fun k18 => some (gt (pt k18 12 l0 6 (wI ((gt k18 12 l0 6) + 1))) 12 l0 6, (pt k18 12 l0 6 (wI ((gt k18 12 l0 6) + 1)))))) else none) else none) else none) else none)) else none) else none) else none) else none) else (some ((-104), h6))) else (some ((-102), h6)))))) else (some ((-101), h1)))) else none
set_option maxHeartbeats 1000000 in
theorem x_X12_plan_0 {l0 l1 l2 l3 : Int} {h : zH} {r : Int} {h' : zH} (hF : F_X12_plan_0 l0 l1 l2 l3 h = some (r, h')) : Ex 2 M_X12_plan 0 [some (vr 12 l0), some (vi l1), some (vi l2), some (vi l3)] [] h (fun r1 h1 => r1 = some (vi r) ∧ h1 = h') := by
  unfold F_X12_plan_0 at hF
  refine ex_aload_n (q := 1) dX12_plan_0 rfl rfl ?_
  refine ex_iload_n (q := 2) dX12_plan_1 rfl rfl ?_
  obtain ⟨g2, hF⟩ := zg hF
  obtain ⟨r1, h1, e1, hF⟩ := zb_some hF
  refine ex_callV (d' := 1) (q := 5) (as := [vi l1]) (st1 := [vi r1]) (r := (some (vi r1))) (h2 := h1) dX12_plan_2 rfl (run_X12_noPart e1) mc_X12_noPart mv_X12_noPart ml_X12_156 (by decide) g2 rfl rfl (Nat.le_of_ble_eq_true rfl) rfl ?_
  refine ex_if_eq (q := 8) (tgt := 11) dX12_plan_5 rfl (by decide) (fun c3 => ?_) (fun c3 => ?_)
  · have hF := ip c3 hF
    refine ex_iload_n (q := 12) dX12_plan_11 rfl rfl ?_
    refine ex_i2l (q := 13) dX12_plan_12 rfl ?_
    refine ex_lconst (q := 14) 1 dX12_plan_13 rfl rfl ⟨by decide, by decide⟩ ?_
    refine ex_ldc2 (q := 17) 20 dX12_plan_14 rfl (zTbl_i 1178 (by decide +kernel) (by decide +kernel)) rfl ⟨by decide, by decide⟩ ?_
    obtain ⟨r4, h4, e4, hF⟩ := zb_some hF
    refine ex_callS (d' := 0) (q := 20) (as := [vl l2, vl 1, vl 20]) (st1 := [vi r4]) (r := (some (vi r4))) (h2 := h4) dX12_plan_17 rfl (run_X12_in e4) mc_X12_in ms_X12_in ml_X12_147 (by decide) rfl rfl (Nat.le_of_ble_eq_true rfl) rfl ?_
    refine ex_if_eq (q := 23) (tgt := 33) dX12_plan_20 rfl (by decide) (fun c5 => ?_) (fun c5 => ?_)
    · have hF := ip c5 hF
      refine ex_bipush (q := 35) dX12_plan_33 rfl (by decide) ⟨by decide, by decide⟩ ?_
      obtain ⟨rfl, rfl⟩ := zr hF
      exact ex_ret (some (vi (-102))) rfl ⟨dX12_plan_35, Or.inl rfl⟩ ⟨rfl, rfl⟩
    · have hF := im c5 hF
      refine ex_iload_n (q := 24) dX12_plan_23 rfl rfl ?_
      refine ex_i2l (q := 25) dX12_plan_24 rfl ?_
      refine ex_lconst (q := 26) 0 dX12_plan_25 rfl rfl ⟨by decide, by decide⟩ ?_
      refine ex_lconst (q := 27) 1 dX12_plan_26 rfl rfl ⟨by decide, by decide⟩ ?_
      obtain ⟨r6, h6, e6, hF⟩ := zb_some hF
      refine ex_callS (d' := 0) (q := 30) (as := [vl l3, vl 0, vl 1]) (st1 := [vi r6]) (r := (some (vi r6))) (h2 := h6) dX12_plan_27 rfl (run_X12_in e6) mc_X12_in ms_X12_in ml_X12_147 (by decide) rfl rfl (Nat.le_of_ble_eq_true rfl) rfl ?_
      refine ex_if_ne (q := 33) (tgt := 36) dX12_plan_30 rfl (by decide) (fun c7 => ?_) (fun c7 => ?_)
      · have hF := ip c7 hF
        refine ex_aload_n (q := 37) dX12_plan_36 rfl rfl ?_
        refine ex_get (q := 40) (v := vi (gt h6 12 l0 6)) 6 dX12_plan_37 rfl fl_X12_167 g2 rfl rfl ?_
        refine ex_bipush (q := 42) dX12_plan_40 rfl (by decide) ⟨by decide, by decide⟩ ?_
        refine ex_icmp_ne (q := 45) (tgt := 48) dX12_plan_42 rfl (by decide) (fun c8 => ?_) (fun c8 => ?_)
        · have hF := ip c8 hF
          refine ex_aload_n (q := 49) dX12_plan_48 rfl rfl ?_
          refine ex_get (q := 52) (v := vr 54 (gt h6 12 l0 7)) 7 dX12_plan_49 rfl fl_X12_22 g2 rfl rfl ?_
          refine ex_aload_n (q := 53) dX12_plan_52 rfl rfl ?_
          refine ex_get (q := 56) (v := vi (gt h6 12 l0 6)) 6 dX12_plan_53 rfl fl_X12_167 g2 rfl rfl ?_
          refine ex_iload_n (q := 57) dX12_plan_56 rfl rfl ?_
          obtain ⟨g9, hF⟩ := zg hF
          obtain ⟨g10, hF⟩ := zg hF
          refine ex_iast (q := 58) dX12_plan_57 rfl kd_54 g9 g10.1 g10.2 ?_
          refine ex_aload_n (q := 59) dX12_plan_58 rfl rfl ?_
          refine ex_get (q := 62) (v := vr 55 (gt (pt h6 54 (gt h6 12 l0 7) (gt h6 12 l0 6) l1) 12 l0 8)) 8 dX12_plan_59 rfl fl_X12_25 g2 rfl rfl ?_
          refine ex_aload_n (q := 63) dX12_plan_62 rfl rfl ?_
          refine ex_get (q := 66) (v := vi (gt (pt h6 54 (gt h6 12 l0 7) (gt h6 12 l0 6) l1) 12 l0 6)) 6 dX12_plan_63 rfl fl_X12_167 g2 rfl rfl ?_
          refine ex_iload_n (q := 67) dX12_plan_66 rfl rfl ?_
          obtain ⟨g11, hF⟩ := zg hF
          obtain ⟨g12, hF⟩ := zg hF
          refine ex_iast (q := 68) dX12_plan_67 rfl kd_55 g11 g12.1 g12.2 ?_
          have hF := zl_e hF
          generalize pt (pt h6 54 (gt h6 12 l0 7) (gt h6 12 l0 6) l1) 55 (gt (pt h6 54 (gt h6 12 l0 7) (gt h6 12 l0 6) l1) 12 l0 8) (gt (pt h6 54 (gt h6 12 l0 7) (gt h6 12 l0 6) l1) 12 l0 6) l2 = k13 at hF ⊢
          refine ex_aload_n (q := 69) dX12_plan_68 rfl rfl ?_
          refine ex_get (q := 72) (v := vr 56 (gt k13 12 l0 9)) 9 dX12_plan_69 rfl fl_X12_28 g2 rfl rfl ?_
          refine ex_aload_n (q := 73) dX12_plan_72 rfl rfl ?_
          refine ex_get (q := 76) (v := vi (gt k13 12 l0 6)) 6 dX12_plan_73 rfl fl_X12_167 g2 rfl rfl ?_
          refine ex_iload_n (q := 77) dX12_plan_76 rfl rfl ?_
          obtain ⟨g14, hF⟩ := zg hF
          obtain ⟨g15, hF⟩ := zg hF
          refine ex_iast (q := 78) dX12_plan_77 rfl kd_56 g14 g15.1 g15.2 ?_
          refine ex_aload_n (q := 79) dX12_plan_78 rfl rfl ?_
          refine ex_get (q := 82) (v := vr 57 (gt (pt k13 56 (gt k13 12 l0 9) (gt k13 12 l0 6) l3) 12 l0 10)) 10 dX12_plan_79 rfl fl_X12_31 g2 rfl rfl ?_
          refine ex_aload_n (q := 83) dX12_plan_82 rfl rfl ?_
          refine ex_get (q := 86) (v := vi (gt (pt k13 56 (gt k13 12 l0 9) (gt k13 12 l0 6) l3) 12 l0 6)) 6 dX12_plan_83 rfl fl_X12_167 g2 rfl rfl ?_
          refine ex_iconst (q := 87) dX12_plan_86 rfl ⟨by decide, by decide⟩ ?_
          obtain ⟨g16, hF⟩ := zg hF
          obtain ⟨g17, hF⟩ := zg hF
          refine ex_iast (q := 88) dX12_plan_87 rfl kd_57 g16 g17.1 g17.2 ?_
          have hF := zl_e hF
          generalize pt (pt k13 56 (gt k13 12 l0 9) (gt k13 12 l0 6) l3) 57 (gt (pt k13 56 (gt k13 12 l0 9) (gt k13 12 l0 6) l3) 12 l0 10) (gt (pt k13 56 (gt k13 12 l0 9) (gt k13 12 l0 6) l3) 12 l0 6) 0 = k18 at hF ⊢
          refine ex_aload_n (q := 89) dX12_plan_88 rfl rfl ?_
          refine ex_dup (q := 90) dX12_plan_89 rfl (fun _ z => by cases z) ?_
          refine ex_get (q := 93) (v := vi (gt k18 12 l0 6)) 6 dX12_plan_90 rfl fl_X12_167 g2 rfl rfl ?_
          refine ex_iconst (q := 94) dX12_plan_93 rfl ⟨by decide, by decide⟩ ?_
          refine ex_iadd (q := 95) dX12_plan_94 rfl ?_
          refine ex_put (q := 98) 6 dX12_plan_95 rfl fl_X12_167 (by decide) g2 rfl rfl (fun z => by cases z) ?_
          refine ex_aload_n (q := 99) dX12_plan_98 rfl rfl ?_
          refine ex_get (q := 102) (v := vi (gt (pt k18 12 l0 6 (wI ((gt k18 12 l0 6) + 1))) 12 l0 6)) 6 dX12_plan_99 rfl fl_X12_167 g2 rfl rfl ?_
          obtain ⟨rfl, rfl⟩ := zr hF
          exact ex_ret (some (vi (gt (pt k18 12 l0 6 (wI ((gt k18 12 l0 6) + 1))) 12 l0 6))) rfl ⟨dX12_plan_102, Or.inl rfl⟩ ⟨rfl, rfl⟩
        · have hF := im c8 hF
          refine ex_bipush (q := 47) dX12_plan_45 rfl (by decide) ⟨by decide, by decide⟩ ?_
          obtain ⟨rfl, rfl⟩ := zr hF
          exact ex_ret (some (vi (-104))) rfl ⟨dX12_plan_47, Or.inl rfl⟩ ⟨rfl, rfl⟩
      · have hF := im c7 hF
        refine ex_bipush (q := 35) dX12_plan_33 rfl (by decide) ⟨by decide, by decide⟩ ?_
        obtain ⟨rfl, rfl⟩ := zr hF
        exact ex_ret (some (vi (-102))) rfl ⟨dX12_plan_35, Or.inl rfl⟩ ⟨rfl, rfl⟩
  · have hF := im c3 hF
    refine ex_bipush (q := 10) dX12_plan_8 rfl (by decide) ⟨by decide, by decide⟩ ?_
    obtain ⟨rfl, rfl⟩ := zr hF
    exact ex_ret (some (vi (-101))) rfl ⟨dX12_plan_10, Or.inl rfl⟩ ⟨rfl, rfl⟩
def F_X12_plan (l0 l1 l2 l3 : Int) (h : zH) : zO := F_X12_plan_0 l0 l1 l2 l3 h
theorem run_X12_plan {l0 l1 l2 l3 : Int} {h : zH} {r : Int} {h' : zH} (hF : F_X12_plan l0 l1 l2 l3 h = some (r, h')) : Run 2 yX12_plan cX12_plan 4 (some .int) [vr 12 l0, vi l1, vi l2, vi l3] h (some (vi r)) h' := run_of (M := M_X12_plan) (by decide) rfl (fun z => by cases z) (Nat.le_of_ble_eq_true rfl) (x_X12_plan_0 hF)
abbrev M_X12_plans : zM := (RX12, (cX12_plans, (3, ((some .int), false))))
def F_X12_plans_0 (l0 l1 : Int) (h : zH) : zO := if 0 ≤ l0 then (if l1 = 0 then (some (gt h 12 l0 6, (pt h 12 l0 6 (gt h 12 l0 6)))) else (some (gt h 12 l0 6, (pt h 12 l0 6 0)))) else none
set_option maxHeartbeats 1000000 in
theorem x_X12_plans_0 {l0 l1 : Int} {h : zH} {r : Int} {h' : zH} (hF : F_X12_plans_0 l0 l1 h = some (r, h')) : Ex 0 M_X12_plans 0 [some (vr 12 l0), some (vi l1), none] [] h (fun r1 h1 => r1 = some (vi r) ∧ h1 = h') := by
  unfold F_X12_plans_0 at hF
  refine ex_aload_n (q := 1) dX12_plans_0 rfl rfl ?_
  obtain ⟨g1, hF⟩ := zg hF
  refine ex_get (q := 4) (v := vi (gt h 12 l0 6)) 6 dX12_plans_1 rfl fl_X12_167 g1 rfl rfl ?_
  refine ex_istore_n (q := 5) (lo' := [some (vr 12 l0), some (vi l1), some (vi (gt h 12 l0 6))]) dX12_plans_4 rfl (by decide) rfl rfl ?_
  refine ex_aload_n (q := 6) dX12_plans_5 rfl rfl ?_
  refine ex_iload_n (q := 7) dX12_plans_6 rfl rfl ?_
  refine ex_if_eq (q := 10) (tgt := 14) dX12_plans_7 rfl (by decide) (fun c2 => ?_) (fun c2 => ?_)
  · have hF := ip c2 hF
    refine ex_aload_n (q := 15) dX12_plans_14 rfl rfl ?_
    refine ex_get (q := 18) (v := vi (gt h 12 l0 6)) 6 dX12_plans_15 rfl fl_X12_167 g1 rfl rfl ?_
    refine ex_put (q := 21) 6 dX12_plans_18 rfl fl_X12_167 (by decide) g1 rfl rfl (fun z => by cases z) ?_
    refine ex_iload_n (q := 22) dX12_plans_21 rfl rfl ?_
    obtain ⟨rfl, rfl⟩ := zr hF
    exact ex_ret (some (vi (gt h 12 l0 6))) rfl ⟨dX12_plans_22, Or.inl rfl⟩ ⟨rfl, rfl⟩
  · have hF := im c2 hF
    refine ex_iconst (q := 11) dX12_plans_10 rfl ⟨by decide, by decide⟩ ?_
    refine ex_goto (q := 18) dX12_plans_11 (by decide) ?_
    refine ex_put (q := 21) 6 dX12_plans_18 rfl fl_X12_167 (by decide) g1 rfl rfl (fun z => by cases z) ?_
    refine ex_iload_n (q := 22) dX12_plans_21 rfl rfl ?_
    obtain ⟨rfl, rfl⟩ := zr hF
    exact ex_ret (some (vi (gt h 12 l0 6))) rfl ⟨dX12_plans_22, Or.inl rfl⟩ ⟨rfl, rfl⟩
def F_X12_plans (l0 l1 : Int) (h : zH) : zO := F_X12_plans_0 l0 l1 h
theorem run_X12_plans {l0 l1 : Int} {h : zH} {r : Int} {h' : zH} (hF : F_X12_plans l0 l1 h = some (r, h')) : Run 0 yX12_plans cX12_plans 3 (some .int) [vr 12 l0, vi l1] h (some (vi r)) h' := run_of (M := M_X12_plans) (by decide) rfl (fun z => by cases z) (Nat.le_of_ble_eq_true rfl) (x_X12_plans_0 hF)
abbrev M_X12_act : zM := (RX12, (cX12_act, (1, ((some .int), false))))
def F_X12_act_0 (l0 : Int) (h : zH) : zO := if 0 ≤ l0 then (if gt h 12 l0 16 ≠ 12 then (if 0 ≤ gt h 12 l0 17 then (if 0 ≤ gt h 12 l0 16 ∧ gt h 12 l0 16 < 12 then (zl (pt (pt h 62 (gt h 12 l0 17) (gt h 12 l0 16) 0) 12 l0 16 (wI ((gt (pt h 62 (gt h 12 l0 17) (gt h 12 l0 16) 0) 12 l0 16) + 1))) (fun k5 => some (wI ((gt k5 12 l0 16) - 1), k5))) else none) else none) else (some ((-104), h))) else none
set_option maxHeartbeats 1000000 in
theorem x_X12_act_0 {l0 : Int} {h : zH} {r : Int} {h' : zH} (hF : F_X12_act_0 l0 h = some (r, h')) : Ex 0 M_X12_act 0 [some (vr 12 l0)] [] h (fun r1 h1 => r1 = some (vi r) ∧ h1 = h') := by
  unfold F_X12_act_0 at hF
  refine ex_aload_n (q := 1) dX12_act_0 rfl rfl ?_
  obtain ⟨g1, hF⟩ := zg hF
  refine ex_get (q := 4) (v := vi (gt h 12 l0 16)) 16 dX12_act_1 rfl fl_X12_177 g1 rfl rfl ?_
  refine ex_bipush (q := 6) dX12_act_4 rfl (by decide) ⟨by decide, by decide⟩ ?_
  refine ex_icmp_ne (q := 9) (tgt := 12) dX12_act_6 rfl (by decide) (fun c2 => ?_) (fun c2 => ?_)
  · have hF := ip c2 hF
    refine ex_aload_n (q := 13) dX12_act_12 rfl rfl ?_
    refine ex_get (q := 16) (v := vr 62 (gt h 12 l0 17)) 17 dX12_act_13 rfl fl_X12_47 g1 rfl rfl ?_
    refine ex_aload_n (q := 17) dX12_act_16 rfl rfl ?_
    refine ex_get (q := 20) (v := vi (gt h 12 l0 16)) 16 dX12_act_17 rfl fl_X12_177 g1 rfl rfl ?_
    refine ex_iconst (q := 21) dX12_act_20 rfl ⟨by decide, by decide⟩ ?_
    obtain ⟨g3, hF⟩ := zg hF
    obtain ⟨g4, hF⟩ := zg hF
    refine ex_iast (q := 22) dX12_act_21 rfl kd_62 g3 g4.1 g4.2 ?_
    refine ex_aload_n (q := 23) dX12_act_22 rfl rfl ?_
    refine ex_dup (q := 24) dX12_act_23 rfl (fun _ z => by cases z) ?_
    refine ex_get (q := 27) (v := vi (gt (pt h 62 (gt h 12 l0 17) (gt h 12 l0 16) 0) 12 l0 16)) 16 dX12_act_24 rfl fl_X12_177 g1 rfl rfl ?_
    refine ex_iconst (q := 28) dX12_act_27 rfl ⟨by decide, by decide⟩ ?_
    refine ex_iadd (q := 29) dX12_act_28 rfl ?_
    refine ex_put (q := 32) 16 dX12_act_29 rfl fl_X12_177 (by decide) g1 rfl rfl (fun z => by cases z) ?_
    have hF := zl_e hF
    generalize pt (pt h 62 (gt h 12 l0 17) (gt h 12 l0 16) 0) 12 l0 16 (wI ((gt (pt h 62 (gt h 12 l0 17) (gt h 12 l0 16) 0) 12 l0 16) + 1)) = k5 at hF ⊢
    refine ex_aload_n (q := 33) dX12_act_32 rfl rfl ?_
    refine ex_get (q := 36) (v := vi (gt k5 12 l0 16)) 16 dX12_act_33 rfl fl_X12_177 g1 rfl rfl ?_
    refine ex_iconst (q := 37) dX12_act_36 rfl ⟨by decide, by decide⟩ ?_
    refine ex_isub (q := 38) dX12_act_37 rfl ?_
    obtain ⟨rfl, rfl⟩ := zr hF
    exact ex_ret (some (vi (wI ((gt k5 12 l0 16) - 1)))) rfl ⟨dX12_act_38, Or.inl rfl⟩ ⟨rfl, rfl⟩
  · have hF := im c2 hF
    refine ex_bipush (q := 11) dX12_act_9 rfl (by decide) ⟨by decide, by decide⟩ ?_
    obtain ⟨rfl, rfl⟩ := zr hF
    exact ex_ret (some (vi (-104))) rfl ⟨dX12_act_11, Or.inl rfl⟩ ⟨rfl, rfl⟩
def F_X12_act (l0 : Int) (h : zH) : zO := F_X12_act_0 l0 h
theorem run_X12_act {l0 : Int} {h : zH} {r : Int} {h' : zH} (hF : F_X12_act l0 h = some (r, h')) : Run 0 yX12_act cX12_act 1 (some .int) [vr 12 l0] h (some (vi r)) h' := run_of (M := M_X12_act) (by decide) rfl (fun z => by cases z) (Nat.le_of_ble_eq_true rfl) (x_X12_act_0 hF)
abbrev M_X12_noAct : zM := (RX12, (cX12_noAct, (2, ((some .boolean), false))))
def F_X12_noAct_0 (l0 l1 : Int) (h : zH) : zO := if 0 ≤ l0 then (zb (F_X12_in l1 0 (wI ((gt h 12 l0 16) - 1)) h) (fun r2 h2 => if r2 ≠ 0 then (some (0, h2)) else (some (1, h2)))) else none
set_option maxHeartbeats 1000000 in
theorem x_X12_noAct_0 {l0 l1 : Int} {h : zH} {r : Int} {h' : zH} (hF : F_X12_noAct_0 l0 l1 h = some (r, h')) : Ex 1 M_X12_noAct 0 [some (vr 12 l0), some (vi l1)] [] h (fun r1 h1 => r1 = some (vi r) ∧ h1 = h') := by
  unfold F_X12_noAct_0 at hF
  refine ex_iload_n (q := 1) dX12_noAct_0 rfl rfl ?_
  refine ex_i2l (q := 2) dX12_noAct_1 rfl ?_
  refine ex_lconst (q := 3) 0 dX12_noAct_2 rfl rfl ⟨by decide, by decide⟩ ?_
  refine ex_aload_n (q := 4) dX12_noAct_3 rfl rfl ?_
  obtain ⟨g1, hF⟩ := zg hF
  refine ex_get (q := 7) (v := vi (gt h 12 l0 16)) 16 dX12_noAct_4 rfl fl_X12_177 g1 rfl rfl ?_
  refine ex_iconst (q := 8) dX12_noAct_7 rfl ⟨by decide, by decide⟩ ?_
  refine ex_isub (q := 9) dX12_noAct_8 rfl ?_
  refine ex_i2l (q := 10) dX12_noAct_9 rfl ?_
  obtain ⟨r2, h2, e2, hF⟩ := zb_some hF
  refine ex_callS (d' := 0) (q := 13) (as := [vl l1, vl 0, vl (wI ((gt h 12 l0 16) - 1))]) (st1 := [vi r2]) (r := (some (vi r2))) (h2 := h2) dX12_noAct_10 rfl (run_X12_in e2) mc_X12_in ms_X12_in ml_X12_147 (by decide) rfl rfl (Nat.le_of_ble_eq_true rfl) rfl ?_
  refine ex_if_ne (q := 16) (tgt := 20) dX12_noAct_13 rfl (by decide) (fun c3 => ?_) (fun c3 => ?_)
  · have hF := ip c3 hF
    refine ex_iconst (q := 21) dX12_noAct_20 rfl ⟨by decide, by decide⟩ ?_
    obtain ⟨rfl, rfl⟩ := zr hF
    exact ex_ret (some (vi 0)) rfl ⟨dX12_noAct_21, Or.inr ⟨rfl, (by decide)⟩⟩ ⟨rfl, rfl⟩
  · have hF := im c3 hF
    refine ex_iconst (q := 17) dX12_noAct_16 rfl ⟨by decide, by decide⟩ ?_
    refine ex_goto (q := 21) dX12_noAct_17 (by decide) ?_
    obtain ⟨rfl, rfl⟩ := zr hF
    exact ex_ret (some (vi 1)) rfl ⟨dX12_noAct_21, Or.inr ⟨rfl, (by decide)⟩⟩ ⟨rfl, rfl⟩
def F_X12_noAct (l0 l1 : Int) (h : zH) : zO := F_X12_noAct_0 l0 l1 h
theorem run_X12_noAct {l0 l1 : Int} {h : zH} {r : Int} {h' : zH} (hF : F_X12_noAct l0 l1 h = some (r, h')) : Run 1 yX12_noAct cX12_noAct 2 (some .boolean) [vr 12 l0, vi l1] h (some (vi r)) h' := run_of (M := M_X12_noAct) (by decide) rfl (fun z => by cases z) (Nat.le_of_ble_eq_true rfl) (x_X12_noAct_0 hF)
abbrev M_X12_line : zM := (RX12, (cX12_line, (6, ((some .int), false))))
def F_X12_line_0 (l0 l1 l2 l3 l4 : Int) (h : zH) : zO := if 0 ≤ l0 then (zb (F_X12_noAct l0 l1 h) (fun r1 h1 => if r1 = 0 then (if 0 ≤ gt h1 12 l0 17 then (if 0 ≤ l1 ∧ l1 < 12 then (if gt h1 62 (gt h1 12 l0 17) l1 ≠ 40 then (if 0 ≤ gt h1 12 l0 18 then (if 0 ≤ wI ((wI (40 * l1)) + (gt h1 62 (gt h1 12 l0 17) l1)) ∧ wI ((wI (40 * l1)) + (gt h1 62 (gt h1 12 l0 17) l1)) < 480 then (if 0 ≤ gt (pt h1 63 (gt h1 12 l0 18) (wI ((wI (40 * l1)) + (gt h1 62 (gt h1 12 l0 17) l1))) l2) 12 l0 19 then (zl (pt (pt h1 63 (gt h1 12 l0 18) (wI ((wI (40 * l1)) + (gt h1 62 (gt h1 12 l0 17) l1))) l2) 64 (gt (pt h1 63 (gt h1 12 l0 18) (wI ((wI (40 * l1)) + (gt h1 62 (gt h1 12 l0 17) l1))) l2) 12 l0 19) (wI ((wI (40 * l1)) + (gt h1 62 (gt h1 12 l0 17) l1))) l3) (fun k10 => if 0 ≤ gt k10 12 l0 20 then (if 0 ≤ gt (pt k10 65 (gt k10 12 l0 20) (wI ((wI (40 * l1)) + (gt h1 62 (gt h1 12 l0 17) l1))) l4) 12 l0 17 then (zl (pt (pt k10 65 (gt k10 12 l0 20) (wI ((wI (40 * l1)) + (gt h1 62 (gt h1 12 l0 17) l1))) l4) 62 (gt (pt k10 65 (gt k10 12 l0 20) (wI ((wI (40 * l1)) + (gt h1 62 (gt h1 12 l0 17) l1))) l4) 12 l0 17) l1 (wI ((gt (pt k10 65 (gt k10 12 l0 20) (wI ((wI (40 * l1)) + (gt h1 62 (gt h1 12 l0 17) l1))) l4) 62 (gt (pt k10 65 (gt k10 12 l0 20) (wI ((wI (40 * l1)) + (gt h1 62 (gt h1 12 l0 17) l1))) l4) 12 l0 17) l1) + 1))) (fun k13 => if 0 ≤ gt k13 12 l0 17 then (some (gt k13 62 (gt k13 12 l0 17) l1, k13)) else none)) else none) else none)) else none) else none) else none) else (some ((-104), h1))) else none) else none) else (some ((-101), h1)))) else none
set_option maxHeartbeats 1000000 in
theorem x_X12_line_0 {l0 l1 l2 l3 l4 : Int} {h : zH} {r : Int} {h' : zH} (hF : F_X12_line_0 l0 l1 l2 l3 l4 h = some (r, h')) : Ex 2 M_X12_line 0 [some (vr 12 l0), some (vi l1), some (vi l2), some (vi l3), some (vi l4), none] [] h (fun r1 h1 => r1 = some (vi r) ∧ h1 = h') := by
  unfold F_X12_line_0 at hF
  refine ex_aload_n (q := 1) dX12_line_0 rfl rfl ?_
  refine ex_iload_n (q := 2) dX12_line_1 rfl rfl ?_
  obtain ⟨g2, hF⟩ := zg hF
  obtain ⟨r1, h1, e1, hF⟩ := zb_some hF
  refine ex_callV (d' := 1) (q := 5) (as := [vi l1]) (st1 := [vi r1]) (r := (some (vi r1))) (h2 := h1) dX12_line_2 rfl (run_X12_noAct e1) mc_X12_noAct mv_X12_noAct ml_X12_180 (by decide) g2 rfl rfl (Nat.le_of_ble_eq_true rfl) rfl ?_
  refine ex_if_eq (q := 8) (tgt := 11) dX12_line_5 rfl (by decide) (fun c3 => ?_) (fun c3 => ?_)
  · have hF := ip c3 hF
    refine ex_aload_n (q := 12) dX12_line_11 rfl rfl ?_
    refine ex_get (q := 15) (v := vr 62 (gt h1 12 l0 17)) 17 dX12_line_12 rfl fl_X12_47 g2 rfl rfl ?_
    refine ex_iload_n (q := 16) dX12_line_15 rfl rfl ?_
    obtain ⟨g4, hF⟩ := zg hF
    obtain ⟨g5, hF⟩ := zg hF
    refine ex_iald (q := 17) dX12_line_16 rfl kd_62 g4 g5.1 g5.2 ?_
    refine ex_bipush (q := 19) dX12_line_17 rfl (by decide) ⟨by decide, by decide⟩ ?_
    refine ex_icmp_ne (q := 22) (tgt := 25) dX12_line_19 rfl (by decide) (fun c6 => ?_) (fun c6 => ?_)
    · have hF := ip c6 hF
      refine ex_bipush (q := 27) dX12_line_25 rfl (by decide) ⟨by decide, by decide⟩ ?_
      refine ex_iload_n (q := 28) dX12_line_27 rfl rfl ?_
      refine ex_imul (q := 29) dX12_line_28 rfl ?_
      refine ex_aload_n (q := 30) dX12_line_29 rfl rfl ?_
      refine ex_get (q := 33) (v := vr 62 (gt h1 12 l0 17)) 17 dX12_line_30 rfl fl_X12_47 g2 rfl rfl ?_
      refine ex_iload_n (q := 34) dX12_line_33 rfl rfl ?_
      refine ex_iald (q := 35) dX12_line_34 rfl kd_62 g4 g5.1 g5.2 ?_
      refine ex_iadd (q := 36) dX12_line_35 rfl ?_
      refine ex_istore (q := 38) (lo' := [some (vr 12 l0), some (vi l1), some (vi l2), some (vi l3), some (vi l4), some (vi (wI ((wI (40 * l1)) + (gt h1 62 (gt h1 12 l0 17) l1))))]) dX12_line_36 rfl (by decide) rfl rfl ?_
      refine ex_aload_n (q := 39) dX12_line_38 rfl rfl ?_
      refine ex_get (q := 42) (v := vr 63 (gt h1 12 l0 18)) 18 dX12_line_39 rfl fl_X12_50 g2 rfl rfl ?_
      refine ex_iload (q := 44) dX12_line_42 rfl rfl ?_
      refine ex_iload_n (q := 45) dX12_line_44 rfl rfl ?_
      obtain ⟨g7, hF⟩ := zg hF
      obtain ⟨g8, hF⟩ := zg hF
      refine ex_iast (q := 46) dX12_line_45 rfl kd_63 g7 g8.1 g8.2 ?_
      refine ex_aload_n (q := 47) dX12_line_46 rfl rfl ?_
      refine ex_get (q := 50) (v := vr 64 (gt (pt h1 63 (gt h1 12 l0 18) (wI ((wI (40 * l1)) + (gt h1 62 (gt h1 12 l0 17) l1))) l2) 12 l0 19)) 19 dX12_line_47 rfl fl_X12_53 g2 rfl rfl ?_
      refine ex_iload (q := 52) dX12_line_50 rfl rfl ?_
      refine ex_iload_n (q := 53) dX12_line_52 rfl rfl ?_
      obtain ⟨g9, hF⟩ := zg hF
      refine ex_iast (q := 54) dX12_line_53 rfl kd_64 g9 g8.1 g8.2 ?_
      have hF := zl_e hF
      generalize pt (pt h1 63 (gt h1 12 l0 18) (wI ((wI (40 * l1)) + (gt h1 62 (gt h1 12 l0 17) l1))) l2) 64 (gt (pt h1 63 (gt h1 12 l0 18) (wI ((wI (40 * l1)) + (gt h1 62 (gt h1 12 l0 17) l1))) l2) 12 l0 19) (wI ((wI (40 * l1)) + (gt h1 62 (gt h1 12 l0 17) l1))) l3 = k10 at hF ⊢
      refine ex_aload_n (q := 55) dX12_line_54 rfl rfl ?_
      refine ex_get (q := 58) (v := vr 65 (gt k10 12 l0 20)) 20 dX12_line_55 rfl fl_X12_56 g2 rfl rfl ?_
      refine ex_iload (q := 60) dX12_line_58 rfl rfl ?_
      refine ex_iload (q := 62) dX12_line_60 rfl rfl ?_
      obtain ⟨g11, hF⟩ := zg hF
      refine ex_iast (q := 63) dX12_line_62 rfl kd_65 g11 g8.1 g8.2 ?_
      refine ex_aload_n (q := 64) dX12_line_63 rfl rfl ?_
      refine ex_get (q := 67) (v := vr 62 (gt (pt k10 65 (gt k10 12 l0 20) (wI ((wI (40 * l1)) + (gt h1 62 (gt h1 12 l0 17) l1))) l4) 12 l0 17)) 17 dX12_line_64 rfl fl_X12_47 g2 rfl rfl ?_
      refine ex_iload_n (q := 68) dX12_line_67 rfl rfl ?_
      refine ex_dup2 (q := 69) dX12_line_68 rfl (fun _ z => by cases z) (fun _ z => by cases z) ?_
      obtain ⟨g12, hF⟩ := zg hF
      refine ex_iald (q := 70) dX12_line_69 rfl kd_62 g12 g5.1 g5.2 ?_
      refine ex_iconst (q := 71) dX12_line_70 rfl ⟨by decide, by decide⟩ ?_
      refine ex_iadd (q := 72) dX12_line_71 rfl ?_
      refine ex_iast (q := 73) dX12_line_72 rfl kd_62 g12 g5.1 g5.2 ?_
      have hF := zl_e hF
      generalize pt (pt k10 65 (gt k10 12 l0 20) (wI ((wI (40 * l1)) + (gt h1 62 (gt h1 12 l0 17) l1))) l4) 62 (gt (pt k10 65 (gt k10 12 l0 20) (wI ((wI (40 * l1)) + (gt h1 62 (gt h1 12 l0 17) l1))) l4) 12 l0 17) l1 (wI ((gt (pt k10 65 (gt k10 12 l0 20) (wI ((wI (40 * l1)) + (gt h1 62 (gt h1 12 l0 17) l1))) l4) 62 (gt (pt k10 65 (gt k10 12 l0 20) (wI ((wI (40 * l1)) + (gt h1 62 (gt h1 12 l0 17) l1))) l4) 12 l0 17) l1) + 1)) = k13 at hF ⊢
      refine ex_aload_n (q := 74) dX12_line_73 rfl rfl ?_
      refine ex_get (q := 77) (v := vr 62 (gt k13 12 l0 17)) 17 dX12_line_74 rfl fl_X12_47 g2 rfl rfl ?_
      refine ex_iload_n (q := 78) dX12_line_77 rfl rfl ?_
      obtain ⟨g14, hF⟩ := zg hF
      refine ex_iald (q := 79) dX12_line_78 rfl kd_62 g14 g5.1 g5.2 ?_
      obtain ⟨rfl, rfl⟩ := zr hF
      exact ex_ret (some (vi (gt k13 62 (gt k13 12 l0 17) l1))) rfl ⟨dX12_line_79, Or.inl rfl⟩ ⟨rfl, rfl⟩
    · have hF := im c6 hF
      refine ex_bipush (q := 24) dX12_line_22 rfl (by decide) ⟨by decide, by decide⟩ ?_
      obtain ⟨rfl, rfl⟩ := zr hF
      exact ex_ret (some (vi (-104))) rfl ⟨dX12_line_24, Or.inl rfl⟩ ⟨rfl, rfl⟩
  · have hF := im c3 hF
    refine ex_bipush (q := 10) dX12_line_8 rfl (by decide) ⟨by decide, by decide⟩ ?_
    obtain ⟨rfl, rfl⟩ := zr hF
    exact ex_ret (some (vi (-101))) rfl ⟨dX12_line_10, Or.inl rfl⟩ ⟨rfl, rfl⟩
def F_X12_line (l0 l1 l2 l3 l4 : Int) (h : zH) : zO := F_X12_line_0 l0 l1 l2 l3 l4 h
theorem run_X12_line {l0 l1 l2 l3 l4 : Int} {h : zH} {r : Int} {h' : zH} (hF : F_X12_line l0 l1 l2 l3 l4 h = some (r, h')) : Run 2 yX12_line cX12_line 6 (some .int) [vr 12 l0, vi l1, vi l2, vi l3, vi l4] h (some (vi r)) h' := run_of (M := M_X12_line) (by decide) rfl (fun z => by cases z) (Nat.le_of_ble_eq_true rfl) (x_X12_line_0 hF)
abbrev M_X12_wipe : zM := (RX12, (cX12_wipe, (3, ((some .int), false))))
def F_X12_wipe_0 (l0 l1 : Int) (h : zH) : zO := if 0 ≤ l0 then (zb (F_X12_noAct l0 l1 h) (fun r1 h1 => if r1 = 0 then (if 0 ≤ gt h1 12 l0 17 then (if 0 ≤ l1 ∧ l1 < 12 then (some (gt h1 62 (gt h1 12 l0 17) l1, (pt h1 62 (gt h1 12 l0 17) l1 0))) else none) else none) else (some ((-101), h1)))) else none
set_option maxHeartbeats 1000000 in
theorem x_X12_wipe_0 {l0 l1 : Int} {h : zH} {r : Int} {h' : zH} (hF : F_X12_wipe_0 l0 l1 h = some (r, h')) : Ex 2 M_X12_wipe 0 [some (vr 12 l0), some (vi l1), none] [] h (fun r1 h1 => r1 = some (vi r) ∧ h1 = h') := by
  unfold F_X12_wipe_0 at hF
  refine ex_aload_n (q := 1) dX12_wipe_0 rfl rfl ?_
  refine ex_iload_n (q := 2) dX12_wipe_1 rfl rfl ?_
  obtain ⟨g2, hF⟩ := zg hF
  obtain ⟨r1, h1, e1, hF⟩ := zb_some hF
  refine ex_callV (d' := 1) (q := 5) (as := [vi l1]) (st1 := [vi r1]) (r := (some (vi r1))) (h2 := h1) dX12_wipe_2 rfl (run_X12_noAct e1) mc_X12_noAct mv_X12_noAct ml_X12_180 (by decide) g2 rfl rfl (Nat.le_of_ble_eq_true rfl) rfl ?_
  refine ex_if_eq (q := 8) (tgt := 11) dX12_wipe_5 rfl (by decide) (fun c3 => ?_) (fun c3 => ?_)
  · have hF := ip c3 hF
    refine ex_aload_n (q := 12) dX12_wipe_11 rfl rfl ?_
    refine ex_get (q := 15) (v := vr 62 (gt h1 12 l0 17)) 17 dX12_wipe_12 rfl fl_X12_47 g2 rfl rfl ?_
    refine ex_iload_n (q := 16) dX12_wipe_15 rfl rfl ?_
    obtain ⟨g4, hF⟩ := zg hF
    obtain ⟨g5, hF⟩ := zg hF
    refine ex_iald (q := 17) dX12_wipe_16 rfl kd_62 g4 g5.1 g5.2 ?_
    refine ex_istore_n (q := 18) (lo' := [some (vr 12 l0), some (vi l1), some (vi (gt h1 62 (gt h1 12 l0 17) l1))]) dX12_wipe_17 rfl (by decide) rfl rfl ?_
    refine ex_aload_n (q := 19) dX12_wipe_18 rfl rfl ?_
    refine ex_get (q := 22) (v := vr 62 (gt h1 12 l0 17)) 17 dX12_wipe_19 rfl fl_X12_47 g2 rfl rfl ?_
    refine ex_iload_n (q := 23) dX12_wipe_22 rfl rfl ?_
    refine ex_iconst (q := 24) dX12_wipe_23 rfl ⟨by decide, by decide⟩ ?_
    refine ex_iast (q := 25) dX12_wipe_24 rfl kd_62 g4 g5.1 g5.2 ?_
    refine ex_iload_n (q := 26) dX12_wipe_25 rfl rfl ?_
    obtain ⟨rfl, rfl⟩ := zr hF
    exact ex_ret (some (vi (gt h1 62 (gt h1 12 l0 17) l1))) rfl ⟨dX12_wipe_26, Or.inl rfl⟩ ⟨rfl, rfl⟩
  · have hF := im c3 hF
    refine ex_bipush (q := 10) dX12_wipe_8 rfl (by decide) ⟨by decide, by decide⟩ ?_
    obtain ⟨rfl, rfl⟩ := zr hF
    exact ex_ret (some (vi (-101))) rfl ⟨dX12_wipe_10, Or.inl rfl⟩ ⟨rfl, rfl⟩
def F_X12_wipe (l0 l1 : Int) (h : zH) : zO := F_X12_wipe_0 l0 l1 h
theorem run_X12_wipe {l0 l1 : Int} {h : zH} {r : Int} {h' : zH} (hF : F_X12_wipe l0 l1 h = some (r, h')) : Run 2 yX12_wipe cX12_wipe 3 (some .int) [vr 12 l0, vi l1] h (some (vi r)) h' := run_of (M := M_X12_wipe) (by decide) rfl (fun z => by cases z) (Nat.le_of_ble_eq_true rfl) (x_X12_wipe_0 hF)
abbrev M_X12_isSlot : zM := (RX12, (cX12_isSlot, (1, ((some .boolean), false))))
def F_X12_isSlot_0 (l0 : Int) (h : zH) : zO := zb (F_X12_in l0 0 7 h) (fun r1 h1 => if r1 = 0 ∨ r1 = 1 then some (r1, h1) else none)
set_option maxHeartbeats 1000000 in
theorem x_X12_isSlot_0 {l0 : Int} {h : zH} {r : Int} {h' : zH} (hF : F_X12_isSlot_0 l0 h = some (r, h')) : Ex 1 M_X12_isSlot 0 [some (vi l0)] [] h (fun r1 h1 => r1 = some (vi r) ∧ h1 = h') := by
  unfold F_X12_isSlot_0 at hF
  refine ex_iload_n (q := 1) dX12_isSlot_0 rfl rfl ?_
  refine ex_i2l (q := 2) dX12_isSlot_1 rfl ?_
  refine ex_lconst (q := 3) 0 dX12_isSlot_2 rfl rfl ⟨by decide, by decide⟩ ?_
  refine ex_ldc2 (q := 6) 7 dX12_isSlot_3 rfl (zTbl_i 1213 (by decide +kernel) (by decide +kernel)) rfl ⟨by decide, by decide⟩ ?_
  obtain ⟨r1, h1, e1, hF⟩ := zb_some hF
  refine ex_callS (d' := 0) (q := 9) (as := [vl l0, vl 0, vl 7]) (st1 := [vi r1]) (r := (some (vi r1))) (h2 := h1) dX12_isSlot_6 rfl (run_X12_in e1) mc_X12_in ms_X12_in ml_X12_147 (by decide) rfl rfl (Nat.le_of_ble_eq_true rfl) rfl ?_
  obtain ⟨g2, hF⟩ := zg hF
  obtain ⟨rfl, rfl⟩ := zr hF
  exact ex_ret (some (vi r1)) rfl ⟨dX12_isSlot_9, Or.inr ⟨rfl, g2⟩⟩ ⟨rfl, rfl⟩
def F_X12_isSlot (l0 : Int) (h : zH) : zO := F_X12_isSlot_0 l0 h
theorem run_X12_isSlot {l0 : Int} {h : zH} {r : Int} {h' : zH} (hF : F_X12_isSlot l0 h = some (r, h')) : Run 1 yX12_isSlot cX12_isSlot 1 (some .boolean) [vi l0] h (some (vi r)) h' := run_of (M := M_X12_isSlot) (by decide) rfl (fun z => by cases z) (Nat.le_of_ble_eq_true rfl) (x_X12_isSlot_0 hF)
abbrev M_X12_isWrong : zM := (RX12, (cX12_isWrong, (3, ((some .boolean), false))))
def F_X12_isWrong_0 (l0 l1 l2 : Int) (h : zH) : zO := if l0 = 0 ∨ l0 = 2 then (zb (F_X12_isSlot l1 h) (fun r2 h2 => if r2 = 0 then (some (1, h2)) else (zb (F_X12_in l2 0 59 h2) (fun r4 h4 => if r4 ≠ 0 then (some (0, h4)) else (some (1, h4)))))) else (if l0 = 1 then (zb (F_X12_isSlot l1 h) (fun r7 h7 => if r7 = 0 then (some (1, h7)) else (zb (F_X12_in l2 0 39 h7) (fun r9 h9 => if r9 ≠ 0 then (some (0, h9)) else (some (1, h9)))))) else (if l0 = 3 ∨ l0 = 4 then (zb (F_X12_isSlot l1 h) (fun r12 h12 => if r12 ≠ 0 then (some (0, h12)) else (some (1, h12)))) else (if l0 = 5 then (zb (F_X12_isSlot l1 h) (fun r15 h15 => if r15 = 0 then (some (1, h15)) else (zb (F_X12_isSlot l2 h15) (fun r17 h17 => if r17 ≠ 0 then (some (0, h17)) else (some (1, h17)))))) else (if l0 = 6 then (zb (F_X12_isSlot l1 h) (fun r20 h20 => if r20 = 0 then (some (1, h20)) else (zb (F_X12_in l2 0 9 h20) (fun r22 h22 => if r22 ≠ 0 then (some (0, h22)) else (some (1, h22)))))) else (if l0 = 7 then (zb (F_X12_in l1 0 11 h) (fun r25 h25 => if r25 = 0 then (some (1, h25)) else (zb (F_X12_isSlot l2 h25) (fun r27 h27 => if r27 ≠ 0 then (some (0, h27)) else (some (1, h27)))))) else (if l0 = 8 ∨ l0 = 14 then (zb (F_X12_in l1 0 11 h) (fun r30 h30 => if r30 ≠ 0 then (some (0, h30)) else (some (1, h30)))) else (if l0 = 9 ∨ l0 = 10 ∨ l0 = 12 ∨ l0 = 13 then (zb (F_X12_in l0 0 16 h) (fun r33 h33 => if r33 ≠ 0 then (some (0, h33)) else (some (1, h33)))) else (if l0 = 11 then (zb (F_X12_in l1 0 20 h) (fun r36 h36 => if r36 ≠ 0 then (some (0, h36)) else (some (1, h36)))) else (zb (F_X12_in l0 0 16 h) (fun r38 h38 => if r38 ≠ 0 then (some (0, h38)) else (some (1, h38))))))))))))
set_option maxHeartbeats 1000000 in
theorem x_X12_isWrong_0 {l0 l1 l2 : Int} {h : zH} {r : Int} {h' : zH} (hF : F_X12_isWrong_0 l0 l1 l2 h = some (r, h')) : Ex 2 M_X12_isWrong 0 [some (vi l0), some (vi l1), some (vi l2)] [] h (fun r1 h1 => r1 = some (vi r) ∧ h1 = h') := by
  unfold F_X12_isWrong_0 at hF
  refine ex_iload_n (q := 1) dX12_isWrong_0 rfl rfl ?_
  by_cases c1 : l0 = 0 ∨ l0 = 2
  · have hF := ip c1 hF
    have K : Ex 2 M_X12_isWrong 76 [some (vi l0), some (vi l1), some (vi l2)] [] h (fun r1 h1 => r1 = some (vi r) ∧ h1 = h') := by
      refine ex_iload_n (q := 77) dX12_isWrong_76 rfl rfl ?_
      obtain ⟨r2, h2, e2, hF⟩ := zb_some hF
      refine ex_callS (d' := 1) (q := 80) (as := [vi l1]) (st1 := [vi r2]) (r := (some (vi r2))) (h2 := h2) dX12_isWrong_77 rfl (run_X12_isSlot e2) mc_X12_isSlot ms_X12_isSlot ml_X12_185 (by decide) rfl rfl (Nat.le_of_ble_eq_true rfl) rfl ?_
      refine ex_if_eq (q := 83) (tgt := 95) dX12_isWrong_80 rfl (by decide) (fun c3 => ?_) (fun c3 => ?_)
      · have hF := ip c3 hF
        refine ex_iconst (q := 96) dX12_isWrong_95 rfl ⟨by decide, by decide⟩ ?_
        refine ex_goto (q := 100) dX12_isWrong_96 (by decide) ?_
        obtain ⟨rfl, rfl⟩ := zr hF
        exact ex_ret (some (vi 1)) rfl ⟨dX12_isWrong_100, Or.inr ⟨rfl, (by decide)⟩⟩ ⟨rfl, rfl⟩
      · have hF := im c3 hF
        refine ex_iload_n (q := 84) dX12_isWrong_83 rfl rfl ?_
        refine ex_i2l (q := 85) dX12_isWrong_84 rfl ?_
        refine ex_lconst (q := 86) 0 dX12_isWrong_85 rfl rfl ⟨by decide, by decide⟩ ?_
        refine ex_ldc2 (q := 89) 59 dX12_isWrong_86 rfl (zTbl_i 1214 (by decide +kernel) (by decide +kernel)) rfl ⟨by decide, by decide⟩ ?_
        obtain ⟨r4, h4, e4, hF⟩ := zb_some hF
        refine ex_callS (d' := 0) (q := 92) (as := [vl l2, vl 0, vl 59]) (st1 := [vi r4]) (r := (some (vi r4))) (h2 := h4) dX12_isWrong_89 rfl (run_X12_in e4) mc_X12_in ms_X12_in ml_X12_147 (by decide) rfl rfl (Nat.le_of_ble_eq_true rfl) rfl ?_
        refine ex_if_ne (q := 95) (tgt := 99) dX12_isWrong_92 rfl (by decide) (fun c5 => ?_) (fun c5 => ?_)
        · have hF := ip c5 hF
          refine ex_iconst (q := 100) dX12_isWrong_99 rfl ⟨by decide, by decide⟩ ?_
          obtain ⟨rfl, rfl⟩ := zr hF
          exact ex_ret (some (vi 0)) rfl ⟨dX12_isWrong_100, Or.inr ⟨rfl, (by decide)⟩⟩ ⟨rfl, rfl⟩
        · have hF := im c5 hF
          refine ex_iconst (q := 96) dX12_isWrong_95 rfl ⟨by decide, by decide⟩ ?_
          refine ex_goto (q := 100) dX12_isWrong_96 (by decide) ?_
          obtain ⟨rfl, rfl⟩ := zr hF
          exact ex_ret (some (vi 1)) rfl ⟨dX12_isWrong_100, Or.inr ⟨rfl, (by decide)⟩⟩ ⟨rfl, rfl⟩
    rcases c1 with c1 | c1
    · exact ex_tsw 0 (tgt := 76) dX12_isWrong_1 c1 (by decide) (by decide) rfl (by decide) K
    · exact ex_tsw 2 (tgt := 76) dX12_isWrong_1 c1 (by decide) (by decide) rfl (by decide) K
  · have hF := im c1 hF
    by_cases c6 : l0 = 1
    · have hF := ip c6 hF
      refine ex_tsw 1 (tgt := 101) dX12_isWrong_1 c6 (by decide) (by decide) rfl (by decide) ?_
      refine ex_iload_n (q := 102) dX12_isWrong_101 rfl rfl ?_
      obtain ⟨r7, h7, e7, hF⟩ := zb_some hF
      refine ex_callS (d' := 1) (q := 105) (as := [vi l1]) (st1 := [vi r7]) (r := (some (vi r7))) (h2 := h7) dX12_isWrong_102 rfl (run_X12_isSlot e7) mc_X12_isSlot ms_X12_isSlot ml_X12_185 (by decide) rfl rfl (Nat.le_of_ble_eq_true rfl) rfl ?_
      refine ex_if_eq (q := 108) (tgt := 120) dX12_isWrong_105 rfl (by decide) (fun c8 => ?_) (fun c8 => ?_)
      · have hF := ip c8 hF
        refine ex_iconst (q := 121) dX12_isWrong_120 rfl ⟨by decide, by decide⟩ ?_
        refine ex_goto (q := 125) dX12_isWrong_121 (by decide) ?_
        obtain ⟨rfl, rfl⟩ := zr hF
        exact ex_ret (some (vi 1)) rfl ⟨dX12_isWrong_125, Or.inr ⟨rfl, (by decide)⟩⟩ ⟨rfl, rfl⟩
      · have hF := im c8 hF
        refine ex_iload_n (q := 109) dX12_isWrong_108 rfl rfl ?_
        refine ex_i2l (q := 110) dX12_isWrong_109 rfl ?_
        refine ex_lconst (q := 111) 0 dX12_isWrong_110 rfl rfl ⟨by decide, by decide⟩ ?_
        refine ex_ldc2 (q := 114) 39 dX12_isWrong_111 rfl (zTbl_i 1152 (by decide +kernel) (by decide +kernel)) rfl ⟨by decide, by decide⟩ ?_
        obtain ⟨r9, h9, e9, hF⟩ := zb_some hF
        refine ex_callS (d' := 0) (q := 117) (as := [vl l2, vl 0, vl 39]) (st1 := [vi r9]) (r := (some (vi r9))) (h2 := h9) dX12_isWrong_114 rfl (run_X12_in e9) mc_X12_in ms_X12_in ml_X12_147 (by decide) rfl rfl (Nat.le_of_ble_eq_true rfl) rfl ?_
        refine ex_if_ne (q := 120) (tgt := 124) dX12_isWrong_117 rfl (by decide) (fun c10 => ?_) (fun c10 => ?_)
        · have hF := ip c10 hF
          refine ex_iconst (q := 125) dX12_isWrong_124 rfl ⟨by decide, by decide⟩ ?_
          obtain ⟨rfl, rfl⟩ := zr hF
          exact ex_ret (some (vi 0)) rfl ⟨dX12_isWrong_125, Or.inr ⟨rfl, (by decide)⟩⟩ ⟨rfl, rfl⟩
        · have hF := im c10 hF
          refine ex_iconst (q := 121) dX12_isWrong_120 rfl ⟨by decide, by decide⟩ ?_
          refine ex_goto (q := 125) dX12_isWrong_121 (by decide) ?_
          obtain ⟨rfl, rfl⟩ := zr hF
          exact ex_ret (some (vi 1)) rfl ⟨dX12_isWrong_125, Or.inr ⟨rfl, (by decide)⟩⟩ ⟨rfl, rfl⟩
    · have hF := im c6 hF
      by_cases c11 : l0 = 3 ∨ l0 = 4
      · have hF := ip c11 hF
        have K : Ex 2 M_X12_isWrong 126 [some (vi l0), some (vi l1), some (vi l2)] [] h (fun r1 h1 => r1 = some (vi r) ∧ h1 = h') := by
          refine ex_iload_n (q := 127) dX12_isWrong_126 rfl rfl ?_
          obtain ⟨r12, h12, e12, hF⟩ := zb_some hF
          refine ex_callS (d' := 1) (q := 130) (as := [vi l1]) (st1 := [vi r12]) (r := (some (vi r12))) (h2 := h12) dX12_isWrong_127 rfl (run_X12_isSlot e12) mc_X12_isSlot ms_X12_isSlot ml_X12_185 (by decide) rfl rfl (Nat.le_of_ble_eq_true rfl) rfl ?_
          refine ex_if_ne (q := 133) (tgt := 137) dX12_isWrong_130 rfl (by decide) (fun c13 => ?_) (fun c13 => ?_)
          · have hF := ip c13 hF
            refine ex_iconst (q := 138) dX12_isWrong_137 rfl ⟨by decide, by decide⟩ ?_
            obtain ⟨rfl, rfl⟩ := zr hF
            exact ex_ret (some (vi 0)) rfl ⟨dX12_isWrong_138, Or.inr ⟨rfl, (by decide)⟩⟩ ⟨rfl, rfl⟩
          · have hF := im c13 hF
            refine ex_iconst (q := 134) dX12_isWrong_133 rfl ⟨by decide, by decide⟩ ?_
            refine ex_goto (q := 138) dX12_isWrong_134 (by decide) ?_
            obtain ⟨rfl, rfl⟩ := zr hF
            exact ex_ret (some (vi 1)) rfl ⟨dX12_isWrong_138, Or.inr ⟨rfl, (by decide)⟩⟩ ⟨rfl, rfl⟩
        rcases c11 with c11 | c11
        · exact ex_tsw 3 (tgt := 126) dX12_isWrong_1 c11 (by decide) (by decide) rfl (by decide) K
        · exact ex_tsw 4 (tgt := 126) dX12_isWrong_1 c11 (by decide) (by decide) rfl (by decide) K
      · have hF := im c11 hF
        by_cases c14 : l0 = 5
        · have hF := ip c14 hF
          refine ex_tsw 5 (tgt := 139) dX12_isWrong_1 c14 (by decide) (by decide) rfl (by decide) ?_
          refine ex_iload_n (q := 140) dX12_isWrong_139 rfl rfl ?_
          obtain ⟨r15, h15, e15, hF⟩ := zb_some hF
          refine ex_callS (d' := 1) (q := 143) (as := [vi l1]) (st1 := [vi r15]) (r := (some (vi r15))) (h2 := h15) dX12_isWrong_140 rfl (run_X12_isSlot e15) mc_X12_isSlot ms_X12_isSlot ml_X12_185 (by decide) rfl rfl (Nat.le_of_ble_eq_true rfl) rfl ?_
          refine ex_if_eq (q := 146) (tgt := 153) dX12_isWrong_143 rfl (by decide) (fun c16 => ?_) (fun c16 => ?_)
          · have hF := ip c16 hF
            refine ex_iconst (q := 154) dX12_isWrong_153 rfl ⟨by decide, by decide⟩ ?_
            refine ex_goto (q := 158) dX12_isWrong_154 (by decide) ?_
            obtain ⟨rfl, rfl⟩ := zr hF
            exact ex_ret (some (vi 1)) rfl ⟨dX12_isWrong_158, Or.inr ⟨rfl, (by decide)⟩⟩ ⟨rfl, rfl⟩
          · have hF := im c16 hF
            refine ex_iload_n (q := 147) dX12_isWrong_146 rfl rfl ?_
            obtain ⟨r17, h17, e17, hF⟩ := zb_some hF
            refine ex_callS (d' := 1) (q := 150) (as := [vi l2]) (st1 := [vi r17]) (r := (some (vi r17))) (h2 := h17) dX12_isWrong_147 rfl (run_X12_isSlot e17) mc_X12_isSlot ms_X12_isSlot ml_X12_185 (by decide) rfl rfl (Nat.le_of_ble_eq_true rfl) rfl ?_
            refine ex_if_ne (q := 153) (tgt := 157) dX12_isWrong_150 rfl (by decide) (fun c18 => ?_) (fun c18 => ?_)
            · have hF := ip c18 hF
              refine ex_iconst (q := 158) dX12_isWrong_157 rfl ⟨by decide, by decide⟩ ?_
              obtain ⟨rfl, rfl⟩ := zr hF
              exact ex_ret (some (vi 0)) rfl ⟨dX12_isWrong_158, Or.inr ⟨rfl, (by decide)⟩⟩ ⟨rfl, rfl⟩
            · have hF := im c18 hF
              refine ex_iconst (q := 154) dX12_isWrong_153 rfl ⟨by decide, by decide⟩ ?_
              refine ex_goto (q := 158) dX12_isWrong_154 (by decide) ?_
              obtain ⟨rfl, rfl⟩ := zr hF
              exact ex_ret (some (vi 1)) rfl ⟨dX12_isWrong_158, Or.inr ⟨rfl, (by decide)⟩⟩ ⟨rfl, rfl⟩
        · have hF := im c14 hF
          by_cases c19 : l0 = 6
          · have hF := ip c19 hF
            refine ex_tsw 6 (tgt := 159) dX12_isWrong_1 c19 (by decide) (by decide) rfl (by decide) ?_
            refine ex_iload_n (q := 160) dX12_isWrong_159 rfl rfl ?_
            obtain ⟨r20, h20, e20, hF⟩ := zb_some hF
            refine ex_callS (d' := 1) (q := 163) (as := [vi l1]) (st1 := [vi r20]) (r := (some (vi r20))) (h2 := h20) dX12_isWrong_160 rfl (run_X12_isSlot e20) mc_X12_isSlot ms_X12_isSlot ml_X12_185 (by decide) rfl rfl (Nat.le_of_ble_eq_true rfl) rfl ?_
            refine ex_if_eq (q := 166) (tgt := 178) dX12_isWrong_163 rfl (by decide) (fun c21 => ?_) (fun c21 => ?_)
            · have hF := ip c21 hF
              refine ex_iconst (q := 179) dX12_isWrong_178 rfl ⟨by decide, by decide⟩ ?_
              refine ex_goto (q := 183) dX12_isWrong_179 (by decide) ?_
              obtain ⟨rfl, rfl⟩ := zr hF
              exact ex_ret (some (vi 1)) rfl ⟨dX12_isWrong_183, Or.inr ⟨rfl, (by decide)⟩⟩ ⟨rfl, rfl⟩
            · have hF := im c21 hF
              refine ex_iload_n (q := 167) dX12_isWrong_166 rfl rfl ?_
              refine ex_i2l (q := 168) dX12_isWrong_167 rfl ?_
              refine ex_lconst (q := 169) 0 dX12_isWrong_168 rfl rfl ⟨by decide, by decide⟩ ?_
              refine ex_ldc2 (q := 172) 9 dX12_isWrong_169 rfl (zTbl_i 1215 (by decide +kernel) (by decide +kernel)) rfl ⟨by decide, by decide⟩ ?_
              obtain ⟨r22, h22, e22, hF⟩ := zb_some hF
              refine ex_callS (d' := 0) (q := 175) (as := [vl l2, vl 0, vl 9]) (st1 := [vi r22]) (r := (some (vi r22))) (h2 := h22) dX12_isWrong_172 rfl (run_X12_in e22) mc_X12_in ms_X12_in ml_X12_147 (by decide) rfl rfl (Nat.le_of_ble_eq_true rfl) rfl ?_
              refine ex_if_ne (q := 178) (tgt := 182) dX12_isWrong_175 rfl (by decide) (fun c23 => ?_) (fun c23 => ?_)
              · have hF := ip c23 hF
                refine ex_iconst (q := 183) dX12_isWrong_182 rfl ⟨by decide, by decide⟩ ?_
                obtain ⟨rfl, rfl⟩ := zr hF
                exact ex_ret (some (vi 0)) rfl ⟨dX12_isWrong_183, Or.inr ⟨rfl, (by decide)⟩⟩ ⟨rfl, rfl⟩
              · have hF := im c23 hF
                refine ex_iconst (q := 179) dX12_isWrong_178 rfl ⟨by decide, by decide⟩ ?_
                refine ex_goto (q := 183) dX12_isWrong_179 (by decide) ?_
                obtain ⟨rfl, rfl⟩ := zr hF
                exact ex_ret (some (vi 1)) rfl ⟨dX12_isWrong_183, Or.inr ⟨rfl, (by decide)⟩⟩ ⟨rfl, rfl⟩
          · have hF := im c19 hF
            by_cases c24 : l0 = 7
            · have hF := ip c24 hF
              refine ex_tsw 7 (tgt := 184) dX12_isWrong_1 c24 (by decide) (by decide) rfl (by decide) ?_
              refine ex_iload_n (q := 185) dX12_isWrong_184 rfl rfl ?_
              refine ex_i2l (q := 186) dX12_isWrong_185 rfl ?_
              refine ex_lconst (q := 187) 0 dX12_isWrong_186 rfl rfl ⟨by decide, by decide⟩ ?_
              refine ex_ldc2 (q := 190) 11 dX12_isWrong_187 rfl (zTbl_i 1216 (by decide +kernel) (by decide +kernel)) rfl ⟨by decide, by decide⟩ ?_
              obtain ⟨r25, h25, e25, hF⟩ := zb_some hF
              refine ex_callS (d' := 0) (q := 193) (as := [vl l1, vl 0, vl 11]) (st1 := [vi r25]) (r := (some (vi r25))) (h2 := h25) dX12_isWrong_190 rfl (run_X12_in e25) mc_X12_in ms_X12_in ml_X12_147 (by decide) rfl rfl (Nat.le_of_ble_eq_true rfl) rfl ?_
              refine ex_if_eq (q := 196) (tgt := 203) dX12_isWrong_193 rfl (by decide) (fun c26 => ?_) (fun c26 => ?_)
              · have hF := ip c26 hF
                refine ex_iconst (q := 204) dX12_isWrong_203 rfl ⟨by decide, by decide⟩ ?_
                refine ex_goto (q := 208) dX12_isWrong_204 (by decide) ?_
                obtain ⟨rfl, rfl⟩ := zr hF
                exact ex_ret (some (vi 1)) rfl ⟨dX12_isWrong_208, Or.inr ⟨rfl, (by decide)⟩⟩ ⟨rfl, rfl⟩
              · have hF := im c26 hF
                refine ex_iload_n (q := 197) dX12_isWrong_196 rfl rfl ?_
                obtain ⟨r27, h27, e27, hF⟩ := zb_some hF
                refine ex_callS (d' := 1) (q := 200) (as := [vi l2]) (st1 := [vi r27]) (r := (some (vi r27))) (h2 := h27) dX12_isWrong_197 rfl (run_X12_isSlot e27) mc_X12_isSlot ms_X12_isSlot ml_X12_185 (by decide) rfl rfl (Nat.le_of_ble_eq_true rfl) rfl ?_
                refine ex_if_ne (q := 203) (tgt := 207) dX12_isWrong_200 rfl (by decide) (fun c28 => ?_) (fun c28 => ?_)
                · have hF := ip c28 hF
                  refine ex_iconst (q := 208) dX12_isWrong_207 rfl ⟨by decide, by decide⟩ ?_
                  obtain ⟨rfl, rfl⟩ := zr hF
                  exact ex_ret (some (vi 0)) rfl ⟨dX12_isWrong_208, Or.inr ⟨rfl, (by decide)⟩⟩ ⟨rfl, rfl⟩
                · have hF := im c28 hF
                  refine ex_iconst (q := 204) dX12_isWrong_203 rfl ⟨by decide, by decide⟩ ?_
                  refine ex_goto (q := 208) dX12_isWrong_204 (by decide) ?_
                  obtain ⟨rfl, rfl⟩ := zr hF
                  exact ex_ret (some (vi 1)) rfl ⟨dX12_isWrong_208, Or.inr ⟨rfl, (by decide)⟩⟩ ⟨rfl, rfl⟩
            · have hF := im c24 hF
              by_cases c29 : l0 = 8 ∨ l0 = 14
              · have hF := ip c29 hF
                have K : Ex 2 M_X12_isWrong 209 [some (vi l0), some (vi l1), some (vi l2)] [] h (fun r1 h1 => r1 = some (vi r) ∧ h1 = h') := by
                  refine ex_iload_n (q := 210) dX12_isWrong_209 rfl rfl ?_
                  refine ex_i2l (q := 211) dX12_isWrong_210 rfl ?_
                  refine ex_lconst (q := 212) 0 dX12_isWrong_211 rfl rfl ⟨by decide, by decide⟩ ?_
                  refine ex_ldc2 (q := 215) 11 dX12_isWrong_212 rfl (zTbl_i 1216 (by decide +kernel) (by decide +kernel)) rfl ⟨by decide, by decide⟩ ?_
                  obtain ⟨r30, h30, e30, hF⟩ := zb_some hF
                  refine ex_callS (d' := 0) (q := 218) (as := [vl l1, vl 0, vl 11]) (st1 := [vi r30]) (r := (some (vi r30))) (h2 := h30) dX12_isWrong_215 rfl (run_X12_in e30) mc_X12_in ms_X12_in ml_X12_147 (by decide) rfl rfl (Nat.le_of_ble_eq_true rfl) rfl ?_
                  refine ex_if_ne (q := 221) (tgt := 225) dX12_isWrong_218 rfl (by decide) (fun c31 => ?_) (fun c31 => ?_)
                  · have hF := ip c31 hF
                    refine ex_iconst (q := 226) dX12_isWrong_225 rfl ⟨by decide, by decide⟩ ?_
                    obtain ⟨rfl, rfl⟩ := zr hF
                    exact ex_ret (some (vi 0)) rfl ⟨dX12_isWrong_226, Or.inr ⟨rfl, (by decide)⟩⟩ ⟨rfl, rfl⟩
                  · have hF := im c31 hF
                    refine ex_iconst (q := 222) dX12_isWrong_221 rfl ⟨by decide, by decide⟩ ?_
                    refine ex_goto (q := 226) dX12_isWrong_222 (by decide) ?_
                    obtain ⟨rfl, rfl⟩ := zr hF
                    exact ex_ret (some (vi 1)) rfl ⟨dX12_isWrong_226, Or.inr ⟨rfl, (by decide)⟩⟩ ⟨rfl, rfl⟩
                rcases c29 with c29 | c29
                · exact ex_tsw 8 (tgt := 209) dX12_isWrong_1 c29 (by decide) (by decide) rfl (by decide) K
                · exact ex_tsw 14 (tgt := 209) dX12_isWrong_1 c29 (by decide) (by decide) rfl (by decide) K
              · have hF := im c29 hF
                by_cases c32 : l0 = 9 ∨ l0 = 10 ∨ l0 = 12 ∨ l0 = 13
                · have hF := ip c32 hF
                  have K : Ex 2 M_X12_isWrong 245 [some (vi l0), some (vi l1), some (vi l2)] [] h (fun r1 h1 => r1 = some (vi r) ∧ h1 = h') := by
                    refine ex_iload_n (q := 246) dX12_isWrong_245 rfl rfl ?_
                    refine ex_i2l (q := 247) dX12_isWrong_246 rfl ?_
                    refine ex_lconst (q := 248) 0 dX12_isWrong_247 rfl rfl ⟨by decide, by decide⟩ ?_
                    refine ex_ldc2 (q := 251) 16 dX12_isWrong_248 rfl (zTbl_i 1217 (by decide +kernel) (by decide +kernel)) rfl ⟨by decide, by decide⟩ ?_
                    obtain ⟨r33, h33, e33, hF⟩ := zb_some hF
                    refine ex_callS (d' := 0) (q := 254) (as := [vl l0, vl 0, vl 16]) (st1 := [vi r33]) (r := (some (vi r33))) (h2 := h33) dX12_isWrong_251 rfl (run_X12_in e33) mc_X12_in ms_X12_in ml_X12_147 (by decide) rfl rfl (Nat.le_of_ble_eq_true rfl) rfl ?_
                    refine ex_if_ne (q := 257) (tgt := 261) dX12_isWrong_254 rfl (by decide) (fun c34 => ?_) (fun c34 => ?_)
                    · have hF := ip c34 hF
                      refine ex_iconst (q := 262) dX12_isWrong_261 rfl ⟨by decide, by decide⟩ ?_
                      obtain ⟨rfl, rfl⟩ := zr hF
                      exact ex_ret (some (vi 0)) rfl ⟨dX12_isWrong_262, Or.inr ⟨rfl, (by decide)⟩⟩ ⟨rfl, rfl⟩
                    · have hF := im c34 hF
                      refine ex_iconst (q := 258) dX12_isWrong_257 rfl ⟨by decide, by decide⟩ ?_
                      refine ex_goto (q := 262) dX12_isWrong_258 (by decide) ?_
                      obtain ⟨rfl, rfl⟩ := zr hF
                      exact ex_ret (some (vi 1)) rfl ⟨dX12_isWrong_262, Or.inr ⟨rfl, (by decide)⟩⟩ ⟨rfl, rfl⟩
                  rcases c32 with c32 | c32 | c32 | c32
                  · exact ex_tsw 9 (tgt := 245) dX12_isWrong_1 c32 (by decide) (by decide) rfl (by decide) K
                  · exact ex_tsw 10 (tgt := 245) dX12_isWrong_1 c32 (by decide) (by decide) rfl (by decide) K
                  · exact ex_tsw 12 (tgt := 245) dX12_isWrong_1 c32 (by decide) (by decide) rfl (by decide) K
                  · exact ex_tsw 13 (tgt := 245) dX12_isWrong_1 c32 (by decide) (by decide) rfl (by decide) K
                · have hF := im c32 hF
                  by_cases c35 : l0 = 11
                  · have hF := ip c35 hF
                    refine ex_tsw 11 (tgt := 227) dX12_isWrong_1 c35 (by decide) (by decide) rfl (by decide) ?_
                    refine ex_iload_n (q := 228) dX12_isWrong_227 rfl rfl ?_
                    refine ex_i2l (q := 229) dX12_isWrong_228 rfl ?_
                    refine ex_lconst (q := 230) 0 dX12_isWrong_229 rfl rfl ⟨by decide, by decide⟩ ?_
                    refine ex_ldc2 (q := 233) 20 dX12_isWrong_230 rfl (zTbl_i 1178 (by decide +kernel) (by decide +kernel)) rfl ⟨by decide, by decide⟩ ?_
                    obtain ⟨r36, h36, e36, hF⟩ := zb_some hF
                    refine ex_callS (d' := 0) (q := 236) (as := [vl l1, vl 0, vl 20]) (st1 := [vi r36]) (r := (some (vi r36))) (h2 := h36) dX12_isWrong_233 rfl (run_X12_in e36) mc_X12_in ms_X12_in ml_X12_147 (by decide) rfl rfl (Nat.le_of_ble_eq_true rfl) rfl ?_
                    refine ex_if_ne (q := 239) (tgt := 243) dX12_isWrong_236 rfl (by decide) (fun c37 => ?_) (fun c37 => ?_)
                    · have hF := ip c37 hF
                      refine ex_iconst (q := 244) dX12_isWrong_243 rfl ⟨by decide, by decide⟩ ?_
                      obtain ⟨rfl, rfl⟩ := zr hF
                      exact ex_ret (some (vi 0)) rfl ⟨dX12_isWrong_244, Or.inr ⟨rfl, (by decide)⟩⟩ ⟨rfl, rfl⟩
                    · have hF := im c37 hF
                      refine ex_iconst (q := 240) dX12_isWrong_239 rfl ⟨by decide, by decide⟩ ?_
                      refine ex_goto (q := 244) dX12_isWrong_240 (by decide) ?_
                      obtain ⟨rfl, rfl⟩ := zr hF
                      exact ex_ret (some (vi 1)) rfl ⟨dX12_isWrong_244, Or.inr ⟨rfl, (by decide)⟩⟩ ⟨rfl, rfl⟩
                  · have hF := im c35 hF
                    refine ex_tswD (tgt := 245) dX12_isWrong_1 (by omega) (by decide) ?_
                    refine ex_iload_n (q := 246) dX12_isWrong_245 rfl rfl ?_
                    refine ex_i2l (q := 247) dX12_isWrong_246 rfl ?_
                    refine ex_lconst (q := 248) 0 dX12_isWrong_247 rfl rfl ⟨by decide, by decide⟩ ?_
                    refine ex_ldc2 (q := 251) 16 dX12_isWrong_248 rfl (zTbl_i 1217 (by decide +kernel) (by decide +kernel)) rfl ⟨by decide, by decide⟩ ?_
                    obtain ⟨r38, h38, e38, hF⟩ := zb_some hF
                    refine ex_callS (d' := 0) (q := 254) (as := [vl l0, vl 0, vl 16]) (st1 := [vi r38]) (r := (some (vi r38))) (h2 := h38) dX12_isWrong_251 rfl (run_X12_in e38) mc_X12_in ms_X12_in ml_X12_147 (by decide) rfl rfl (Nat.le_of_ble_eq_true rfl) rfl ?_
                    refine ex_if_ne (q := 257) (tgt := 261) dX12_isWrong_254 rfl (by decide) (fun c39 => ?_) (fun c39 => ?_)
                    · have hF := ip c39 hF
                      refine ex_iconst (q := 262) dX12_isWrong_261 rfl ⟨by decide, by decide⟩ ?_
                      obtain ⟨rfl, rfl⟩ := zr hF
                      exact ex_ret (some (vi 0)) rfl ⟨dX12_isWrong_262, Or.inr ⟨rfl, (by decide)⟩⟩ ⟨rfl, rfl⟩
                    · have hF := im c39 hF
                      refine ex_iconst (q := 258) dX12_isWrong_257 rfl ⟨by decide, by decide⟩ ?_
                      refine ex_goto (q := 262) dX12_isWrong_258 (by decide) ?_
                      obtain ⟨rfl, rfl⟩ := zr hF
                      exact ex_ret (some (vi 1)) rfl ⟨dX12_isWrong_262, Or.inr ⟨rfl, (by decide)⟩⟩ ⟨rfl, rfl⟩
def F_X12_isWrong (l0 l1 l2 : Int) (h : zH) : zO := F_X12_isWrong_0 l0 l1 l2 h
theorem run_X12_isWrong {l0 l1 l2 : Int} {h : zH} {r : Int} {h' : zH} (hF : F_X12_isWrong l0 l1 l2 h = some (r, h')) : Run 2 yX12_isWrong cX12_isWrong 3 (some .boolean) [vi l0, vi l1, vi l2] h (some (vi r)) h' := run_of (M := M_X12_isWrong) (by decide) rfl (fun z => by cases z) (Nat.le_of_ble_eq_true rfl) (x_X12_isWrong_0 hF)
abbrev M_X12_begins : zM := (RX12, (cX12_begins, (1, ((some .boolean), false))))
def F_X12_begins_0 (l0 : Int) (h : zH) : zO := if l0 = 11 then (some (1, h)) else (if l0 = 12 then (some (1, h)) else (if l0 ≠ 13 then (some (0, h)) else (some (1, h))))
set_option maxHeartbeats 1000000 in
theorem x_X12_begins_0 {l0 : Int} {h : zH} {r : Int} {h' : zH} (hF : F_X12_begins_0 l0 h = some (r, h')) : Ex 0 M_X12_begins 0 [some (vi l0)] [] h (fun r1 h1 => r1 = some (vi r) ∧ h1 = h') := by
  unfold F_X12_begins_0 at hF
  refine ex_iload_n (q := 1) dX12_begins_0 rfl rfl ?_
  refine ex_bipush (q := 3) dX12_begins_1 rfl (by decide) ⟨by decide, by decide⟩ ?_
  refine ex_icmp_eq (q := 6) (tgt := 18) dX12_begins_3 rfl (by decide) (fun c1 => ?_) (fun c1 => ?_)
  · have hF := ip c1 hF
    refine ex_iconst (q := 19) dX12_begins_18 rfl ⟨by decide, by decide⟩ ?_
    refine ex_goto (q := 23) dX12_begins_19 (by decide) ?_
    obtain ⟨rfl, rfl⟩ := zr hF
    exact ex_ret (some (vi 1)) rfl ⟨dX12_begins_23, Or.inr ⟨rfl, (by decide)⟩⟩ ⟨rfl, rfl⟩
  · have hF := im c1 hF
    refine ex_iload_n (q := 7) dX12_begins_6 rfl rfl ?_
    refine ex_bipush (q := 9) dX12_begins_7 rfl (by decide) ⟨by decide, by decide⟩ ?_
    refine ex_icmp_eq (q := 12) (tgt := 18) dX12_begins_9 rfl (by decide) (fun c2 => ?_) (fun c2 => ?_)
    · have hF := ip c2 hF
      refine ex_iconst (q := 19) dX12_begins_18 rfl ⟨by decide, by decide⟩ ?_
      refine ex_goto (q := 23) dX12_begins_19 (by decide) ?_
      obtain ⟨rfl, rfl⟩ := zr hF
      exact ex_ret (some (vi 1)) rfl ⟨dX12_begins_23, Or.inr ⟨rfl, (by decide)⟩⟩ ⟨rfl, rfl⟩
    · have hF := im c2 hF
      refine ex_iload_n (q := 13) dX12_begins_12 rfl rfl ?_
      refine ex_bipush (q := 15) dX12_begins_13 rfl (by decide) ⟨by decide, by decide⟩ ?_
      refine ex_icmp_ne (q := 18) (tgt := 22) dX12_begins_15 rfl (by decide) (fun c3 => ?_) (fun c3 => ?_)
      · have hF := ip c3 hF
        refine ex_iconst (q := 23) dX12_begins_22 rfl ⟨by decide, by decide⟩ ?_
        obtain ⟨rfl, rfl⟩ := zr hF
        exact ex_ret (some (vi 0)) rfl ⟨dX12_begins_23, Or.inr ⟨rfl, (by decide)⟩⟩ ⟨rfl, rfl⟩
      · have hF := im c3 hF
        refine ex_iconst (q := 19) dX12_begins_18 rfl ⟨by decide, by decide⟩ ?_
        refine ex_goto (q := 23) dX12_begins_19 (by decide) ?_
        obtain ⟨rfl, rfl⟩ := zr hF
        exact ex_ret (some (vi 1)) rfl ⟨dX12_begins_23, Or.inr ⟨rfl, (by decide)⟩⟩ ⟨rfl, rfl⟩
def F_X12_begins (l0 : Int) (h : zH) : zO := F_X12_begins_0 l0 h
theorem run_X12_begins {l0 : Int} {h : zH} {r : Int} {h' : zH} (hF : F_X12_begins l0 h = some (r, h')) : Run 0 yX12_begins cX12_begins 1 (some .boolean) [vi l0] h (some (vi r)) h' := run_of (M := M_X12_begins) (by decide) rfl (fun z => by cases z) (Nat.le_of_ble_eq_true rfl) (x_X12_begins_0 hF)
abbrev M_X12_judge : zM := (RX12, (cX12_judge, (8, (none, false))))
def F_X12_judge_338 (l0 l1 l2 : Int) (h : zH) : zO := if 0 ≤ l0 then (if gt h 12 l0 21 ≠ 0 then (some (0, h)) else (if l2 ≤ 0 then (some (0, h)) else (if 0 ≤ gt (pt h 12 l0 21 5) 12 l0 17 then (if 0 ≤ l1 ∧ l1 < 12 then (some (0, (pt (pt h 12 l0 21 5) 12 l0 22 (gt (pt h 12 l0 21 5) 62 (gt (pt h 12 l0 21 5) 12 l0 17) l1)))) else none) else none))) else none
set_option maxHeartbeats 1000000 in
theorem x_X12_judge_338 {l0 l1 l2 : Int} {h : zH} {r : Int} {h' : zH} (hF : F_X12_judge_338 l0 l1 l2 h = some (r, h')) : Ex 3 M_X12_judge 338 [some (vr 12 l0), some (vi l1), some (vi l2), none, none, none, none, none] [] h (fun r1 h1 => r1 = none ∧ h1 = h') := by
  unfold F_X12_judge_338 at hF
  refine ex_aload_n (q := 339) dX12_judge_338 rfl rfl ?_
  obtain ⟨g1, hF⟩ := zg hF
  refine ex_get (q := 342) (v := vi (gt h 12 l0 21)) 21 dX12_judge_339 rfl fl_X12_196 g1 rfl rfl ?_
  refine ex_if_ne (q := 345) (tgt := 364) dX12_judge_342 rfl (by decide) (fun c2 => ?_) (fun c2 => ?_)
  · have hF := ip c2 hF
    obtain ⟨rfl, rfl⟩ := zr hF
    exact ex_ret none rfl ⟨dX12_judge_364, rfl⟩ ⟨rfl, rfl⟩
  · have hF := im c2 hF
    refine ex_iload_n (q := 346) dX12_judge_345 rfl rfl ?_
    refine ex_if_le (q := 349) (tgt := 364) dX12_judge_346 rfl (by decide) (fun c3 => ?_) (fun c3 => ?_)
    · have hF := ip c3 hF
      obtain ⟨rfl, rfl⟩ := zr hF
      exact ex_ret none rfl ⟨dX12_judge_364, rfl⟩ ⟨rfl, rfl⟩
    · have hF := im c3 hF
      refine ex_aload_n (q := 350) dX12_judge_349 rfl rfl ?_
      refine ex_iconst (q := 351) dX12_judge_350 rfl ⟨by decide, by decide⟩ ?_
      refine ex_put (q := 354) 21 dX12_judge_351 rfl fl_X12_196 (by decide) g1 rfl rfl (fun z => by cases z) ?_
      refine ex_aload_n (q := 355) dX12_judge_354 rfl rfl ?_
      refine ex_aload_n (q := 356) dX12_judge_355 rfl rfl ?_
      refine ex_get (q := 359) (v := vr 62 (gt (pt h 12 l0 21 5) 12 l0 17)) 17 dX12_judge_356 rfl fl_X12_47 g1 rfl rfl ?_
      refine ex_iload_n (q := 360) dX12_judge_359 rfl rfl ?_
      obtain ⟨g4, hF⟩ := zg hF
      obtain ⟨g5, hF⟩ := zg hF
      refine ex_iald (q := 361) dX12_judge_360 rfl kd_62 g4 g5.1 g5.2 ?_
      refine ex_put (q := 364) 22 dX12_judge_361 rfl fl_X12_199 (by decide) g1 rfl rfl (fun z => by cases z) ?_
      obtain ⟨rfl, rfl⟩ := zr hF
      exact ex_ret none rfl ⟨dX12_judge_364, rfl⟩ ⟨rfl, rfl⟩
def F_X12_judge_316 (ag14 : Int → Int → Int → Int → zH → zO) (l0 l1 l2 l3 l5 : Int) (h : zH) : zO := if l5 ≤ 0 then (ag14 l0 l1 l2 (wI (l3 + 1)) h) else (if 0 ≤ l0 then (ag14 l0 l1 l2 (wI (l3 + 1)) (pt (pt h 12 l0 21 l5) 12 l0 22 l3)) else none)
set_option maxHeartbeats 1000000 in
theorem x_X12_judge_316 {ag14 : Int → Int → Int → Int → zH → zO} (hag14 : ∀ (l0 l1 l2 l3 : Int) (h : zH) (r : Int) (h' : zH), ag14 l0 l1 l2 l3 h = some (r, h') → Ex 3 M_X12_judge 14 [some (vr 12 l0), some (vi l1), some (vi l2), some (vi l3), none, none, none, none] [] h (fun r1 h1 => r1 = none ∧ h1 = h')) {l0 l1 l2 l3 l5 : Int} {h : zH} {r : Int} {h' : zH} (hF : F_X12_judge_316 ag14 l0 l1 l2 l3 l5 h = some (r, h')) : Ex 3 M_X12_judge 316 [some (vr 12 l0), some (vi l1), some (vi l2), some (vi l3), none, some (vi l5), none, none] [] h (fun r1 h1 => r1 = none ∧ h1 = h') := by
  unfold F_X12_judge_316 at hF
  refine ex_iload (q := 318) dX12_judge_316 rfl rfl ?_
  refine ex_if_le (q := 321) (tgt := 332) dX12_judge_318 rfl (by decide) (fun c1 => ?_) (fun c1 => ?_)
  · have hF := ip c1 hF
    refine ex_iinc (q := 335) (lo' := [some (vr 12 l0), some (vi l1), some (vi l2), some (vi (wI (l3 + 1))), none, some (vi l5), none, none]) dX12_judge_332 rfl rfl (by decide) rfl rfl ?_
    refine ex_goto (q := 14) dX12_judge_335 (by decide) ?_
    exact ex_forget (lo' := [some (vr 12 l0), some (vi l1), some (vi l2), some (vi (wI (l3 + 1))), none, none, none, none]) ⟨Or.inr rfl, Or.inr rfl, Or.inr rfl, Or.inr rfl, Or.inl rfl, Or.inl rfl, Or.inl rfl, Or.inl rfl, trivial⟩ (hag14 _ _ _ _ _ _ _ hF)
  · have hF := im c1 hF
    refine ex_aload_n (q := 322) dX12_judge_321 rfl rfl ?_
    refine ex_iload (q := 324) dX12_judge_322 rfl rfl ?_
    obtain ⟨g2, hF⟩ := zg hF
    refine ex_put (q := 327) 21 dX12_judge_324 rfl fl_X12_196 (by decide) g2 rfl rfl (fun z => by cases z) ?_
    refine ex_aload_n (q := 328) dX12_judge_327 rfl rfl ?_
    refine ex_iload_n (q := 329) dX12_judge_328 rfl rfl ?_
    refine ex_put (q := 332) 22 dX12_judge_329 rfl fl_X12_199 (by decide) g2 rfl rfl (fun z => by cases z) ?_
    refine ex_iinc (q := 335) (lo' := [some (vr 12 l0), some (vi l1), some (vi l2), some (vi (wI (l3 + 1))), none, some (vi l5), none, none]) dX12_judge_332 rfl rfl (by decide) rfl rfl ?_
    refine ex_goto (q := 14) dX12_judge_335 (by decide) ?_
    exact ex_forget (lo' := [some (vr 12 l0), some (vi l1), some (vi l2), some (vi (wI (l3 + 1))), none, none, none, none]) ⟨Or.inr rfl, Or.inr rfl, Or.inr rfl, Or.inr rfl, Or.inl rfl, Or.inl rfl, Or.inl rfl, Or.inl rfl, trivial⟩ (hag14 _ _ _ _ _ _ _ hF)
def F_X12_judge_291 (ag268 : Int → Int → Int → Int → Int → Int → zH → zO) (l0 l1 l2 l3 l7 : Int) (h : zH) : zO := ag268 l0 l1 l2 l3 1 (wI (l7 + 1)) h
set_option maxHeartbeats 1000000 in
theorem x_X12_judge_291 {ag268 : Int → Int → Int → Int → Int → Int → zH → zO} (hag268 : ∀ (l0 l1 l2 l3 l6 l7 : Int) (h : zH) (r : Int) (h' : zH), ag268 l0 l1 l2 l3 l6 l7 h = some (r, h') → Ex 3 M_X12_judge 268 [some (vr 12 l0), some (vi l1), some (vi l2), some (vi l3), none, none, some (vi l6), some (vi l7)] [] h (fun r1 h1 => r1 = none ∧ h1 = h')) {l0 l1 l2 l3 l7 : Int} {h : zH} {r : Int} {h' : zH} (hF : F_X12_judge_291 ag268 l0 l1 l2 l3 l7 h = some (r, h')) : Ex 3 M_X12_judge 291 [some (vr 12 l0), some (vi l1), some (vi l2), some (vi l3), none, none, none, some (vi l7)] [] h (fun r1 h1 => r1 = none ∧ h1 = h') := by
  unfold F_X12_judge_291 at hF
  refine ex_iconst (q := 292) dX12_judge_291 rfl ⟨by decide, by decide⟩ ?_
  refine ex_goto (q := 296) dX12_judge_292 (by decide) ?_
  refine ex_istore (q := 298) (lo' := [some (vr 12 l0), some (vi l1), some (vi l2), some (vi l3), none, none, some (vi 1), some (vi l7)]) dX12_judge_296 rfl (by decide) rfl rfl ?_
  refine ex_iinc (q := 301) (lo' := [some (vr 12 l0), some (vi l1), some (vi l2), some (vi l3), none, none, some (vi 1), some (vi (wI (l7 + 1)))]) dX12_judge_298 rfl rfl (by decide) rfl rfl ?_
  refine ex_goto (q := 268) dX12_judge_301 (by decide) ?_
  exact ex_forget (lo' := [some (vr 12 l0), some (vi l1), some (vi l2), some (vi l3), none, none, some (vi 1), some (vi (wI (l7 + 1)))]) ⟨Or.inr rfl, Or.inr rfl, Or.inr rfl, Or.inr rfl, Or.inl rfl, Or.inl rfl, Or.inr rfl, Or.inr rfl, trivial⟩ (hag268 _ _ _ _ _ _ _ _ _ hF)
def F_X12_judge_268b (ag14 : Int → Int → Int → Int → zH → zO) (ag268 : Int → Int → Int → Int → Int → Int → zH → zO) (l0 l1 l2 l3 l6 l7 : Int) (h : zH) : zO := if l2 ≤ l7 then (if l6 = 0 then (F_X12_judge_316 ag14 l0 l1 l2 l3 4 h) else (F_X12_judge_316 ag14 l0 l1 l2 l3 0 h)) else (if l6 ≠ 0 then (F_X12_judge_291 ag268 l0 l1 l2 l3 l7 h) else (if 0 ≤ l0 then (if 0 ≤ gt h 12 l0 23 then (if 0 ≤ l7 ∧ l7 < 50 then (if gt h 66 (gt h 12 l0 23) l7 ≠ 11 then (ag268 l0 l1 l2 l3 0 (wI (l7 + 1)) h) else (F_X12_judge_291 ag268 l0 l1 l2 l3 l7 h)) else none) else none) else none))
set_option maxHeartbeats 1000000 in
theorem x_X12_judge_268b {ag14 : Int → Int → Int → Int → zH → zO} {ag268 : Int → Int → Int → Int → Int → Int → zH → zO} (hag14 : ∀ (l0 l1 l2 l3 : Int) (h : zH) (r : Int) (h' : zH), ag14 l0 l1 l2 l3 h = some (r, h') → Ex 3 M_X12_judge 14 [some (vr 12 l0), some (vi l1), some (vi l2), some (vi l3), none, none, none, none] [] h (fun r1 h1 => r1 = none ∧ h1 = h')) (hag268 : ∀ (l0 l1 l2 l3 l6 l7 : Int) (h : zH) (r : Int) (h' : zH), ag268 l0 l1 l2 l3 l6 l7 h = some (r, h') → Ex 3 M_X12_judge 268 [some (vr 12 l0), some (vi l1), some (vi l2), some (vi l3), none, none, some (vi l6), some (vi l7)] [] h (fun r1 h1 => r1 = none ∧ h1 = h')) {l0 l1 l2 l3 l6 l7 : Int} {h : zH} {r : Int} {h' : zH} (hF : F_X12_judge_268b ag14 ag268 l0 l1 l2 l3 l6 l7 h = some (r, h')) : Ex 3 M_X12_judge 268 [some (vr 12 l0), some (vi l1), some (vi l2), some (vi l3), none, none, some (vi l6), some (vi l7)] [] h (fun r1 h1 => r1 = none ∧ h1 = h') := by
  unfold F_X12_judge_268b at hF
  refine ex_iload (q := 270) dX12_judge_268 rfl rfl ?_
  refine ex_iload_n (q := 271) dX12_judge_270 rfl rfl ?_
  refine ex_icmp_ge (q := 274) (tgt := 304) dX12_judge_271 rfl (by decide) (fun c1 => ?_) (fun c1 => ?_)
  · have hF := ip c1 hF
    refine ex_iload (q := 306) dX12_judge_304 rfl rfl ?_
    refine ex_if_eq (q := 309) (tgt := 313) dX12_judge_306 rfl (by decide) (fun c2 => ?_) (fun c2 => ?_)
    · have hF := ip c2 hF
      refine ex_iconst (q := 314) dX12_judge_313 rfl ⟨by decide, by decide⟩ ?_
      refine ex_istore (q := 316) (lo' := [some (vr 12 l0), some (vi l1), some (vi l2), some (vi l3), none, some (vi 4), some (vi l6), some (vi l7)]) dX12_judge_314 rfl (by decide) rfl rfl ?_
      exact ex_forget (lo' := [some (vr 12 l0), some (vi l1), some (vi l2), some (vi l3), none, some (vi 4), none, none]) ⟨Or.inr rfl, Or.inr rfl, Or.inr rfl, Or.inr rfl, Or.inl rfl, Or.inr rfl, Or.inl rfl, Or.inl rfl, trivial⟩ (x_X12_judge_316 hag14 hF)
    · have hF := im c2 hF
      refine ex_iconst (q := 310) dX12_judge_309 rfl ⟨by decide, by decide⟩ ?_
      refine ex_goto (q := 314) dX12_judge_310 (by decide) ?_
      refine ex_istore (q := 316) (lo' := [some (vr 12 l0), some (vi l1), some (vi l2), some (vi l3), none, some (vi 0), some (vi l6), some (vi l7)]) dX12_judge_314 rfl (by decide) rfl rfl ?_
      exact ex_forget (lo' := [some (vr 12 l0), some (vi l1), some (vi l2), some (vi l3), none, some (vi 0), none, none]) ⟨Or.inr rfl, Or.inr rfl, Or.inr rfl, Or.inr rfl, Or.inl rfl, Or.inr rfl, Or.inl rfl, Or.inl rfl, trivial⟩ (x_X12_judge_316 hag14 hF)
  · have hF := im c1 hF
    refine ex_iload (q := 276) dX12_judge_274 rfl rfl ?_
    refine ex_if_ne (q := 279) (tgt := 291) dX12_judge_276 rfl (by decide) (fun c3 => ?_) (fun c3 => ?_)
    · have hF := ip c3 hF
      exact ex_forget (lo' := [some (vr 12 l0), some (vi l1), some (vi l2), some (vi l3), none, none, none, some (vi l7)]) ⟨Or.inr rfl, Or.inr rfl, Or.inr rfl, Or.inr rfl, Or.inl rfl, Or.inl rfl, Or.inl rfl, Or.inr rfl, trivial⟩ (x_X12_judge_291 hag268 hF)
    · have hF := im c3 hF
      refine ex_aload_n (q := 280) dX12_judge_279 rfl rfl ?_
      obtain ⟨g4, hF⟩ := zg hF
      refine ex_get (q := 283) (v := vr 66 (gt h 12 l0 23)) 23 dX12_judge_280 rfl fl_X12_59 g4 rfl rfl ?_
      refine ex_iload (q := 285) dX12_judge_283 rfl rfl ?_
      obtain ⟨g5, hF⟩ := zg hF
      obtain ⟨g6, hF⟩ := zg hF
      refine ex_iald (q := 286) dX12_judge_285 rfl kd_66 g5 g6.1 g6.2 ?_
      refine ex_bipush (q := 288) dX12_judge_286 rfl (by decide) ⟨by decide, by decide⟩ ?_
      refine ex_icmp_ne (q := 291) (tgt := 295) dX12_judge_288 rfl (by decide) (fun c7 => ?_) (fun c7 => ?_)
      · have hF := ip c7 hF
        refine ex_iconst (q := 296) dX12_judge_295 rfl ⟨by decide, by decide⟩ ?_
        refine ex_istore (q := 298) (lo' := [some (vr 12 l0), some (vi l1), some (vi l2), some (vi l3), none, none, some (vi 0), some (vi l7)]) dX12_judge_296 rfl (by decide) rfl rfl ?_
        refine ex_iinc (q := 301) (lo' := [some (vr 12 l0), some (vi l1), some (vi l2), some (vi l3), none, none, some (vi 0), some (vi (wI (l7 + 1)))]) dX12_judge_298 rfl rfl (by decide) rfl rfl ?_
        refine ex_goto (q := 268) dX12_judge_301 (by decide) ?_
        exact ex_forget (lo' := [some (vr 12 l0), some (vi l1), some (vi l2), some (vi l3), none, none, some (vi 0), some (vi (wI (l7 + 1)))]) ⟨Or.inr rfl, Or.inr rfl, Or.inr rfl, Or.inr rfl, Or.inl rfl, Or.inl rfl, Or.inr rfl, Or.inr rfl, trivial⟩ (hag268 _ _ _ _ _ _ _ _ _ hF)
      · have hF := im c7 hF
        exact ex_forget (lo' := [some (vr 12 l0), some (vi l1), some (vi l2), some (vi l3), none, none, none, some (vi l7)]) ⟨Or.inr rfl, Or.inr rfl, Or.inr rfl, Or.inr rfl, Or.inl rfl, Or.inl rfl, Or.inl rfl, Or.inr rfl, trivial⟩ (x_X12_judge_291 hag268 hF)
def F_X12_judge_268 (ag14 : Int → Int → Int → Int → zH → zO) : Nat → Int → Int → Int → Int → Int → Int → zH → zO
  | 0, _, _, _, _, _, _, _ => none
  | n + 1, l0, l1, l2, l3, l6, l7, h => F_X12_judge_268b ag14 (F_X12_judge_268 ag14 n) l0 l1 l2 l3 l6 l7 h
theorem x_X12_judge_268 {ag14 : Int → Int → Int → Int → zH → zO} (hag14 : ∀ (l0 l1 l2 l3 : Int) (h : zH) (r : Int) (h' : zH), ag14 l0 l1 l2 l3 h = some (r, h') → Ex 3 M_X12_judge 14 [some (vr 12 l0), some (vi l1), some (vi l2), some (vi l3), none, none, none, none] [] h (fun r1 h1 => r1 = none ∧ h1 = h')) : ∀ (n : Nat) (l0 l1 l2 l3 l6 l7 : Int) (h : zH) (r : Int) (h' : zH), F_X12_judge_268 ag14 n l0 l1 l2 l3 l6 l7 h = some (r, h') → Ex 3 M_X12_judge 268 [some (vr 12 l0), some (vi l1), some (vi l2), some (vi l3), none, none, some (vi l6), some (vi l7)] [] h (fun r1 h1 => r1 = none ∧ h1 = h')
  | 0, _, _, _, _, _, _, _, _, _, hF => by cases hF
  | n + 1, _, _, _, _, _, _, _, _, _, hF => x_X12_judge_268b hag14 (x_X12_judge_268 hag14 n) hF
def F_X12_judge_250 (ag14 : Int → Int → Int → Int → zH → zO) (l0 l1 l2 l3 l4 l5 : Int) (h : zH) : zO := if l5 ≠ 0 then (F_X12_judge_316 ag14 l0 l1 l2 l3 l5 h) else (if l4 ≠ 10 then (F_X12_judge_316 ag14 l0 l1 l2 l3 l5 h) else (F_X12_judge_268 ag14 zF l0 l1 l2 l3 0 0 h))
set_option maxHeartbeats 1000000 in
theorem x_X12_judge_250 {ag14 : Int → Int → Int → Int → zH → zO} (hag14 : ∀ (l0 l1 l2 l3 : Int) (h : zH) (r : Int) (h' : zH), ag14 l0 l1 l2 l3 h = some (r, h') → Ex 3 M_X12_judge 14 [some (vr 12 l0), some (vi l1), some (vi l2), some (vi l3), none, none, none, none] [] h (fun r1 h1 => r1 = none ∧ h1 = h')) {l0 l1 l2 l3 l4 l5 : Int} {h : zH} {r : Int} {h' : zH} (hF : F_X12_judge_250 ag14 l0 l1 l2 l3 l4 l5 h = some (r, h')) : Ex 3 M_X12_judge 250 [some (vr 12 l0), some (vi l1), some (vi l2), some (vi l3), some (vi l4), some (vi l5), none, none] [] h (fun r1 h1 => r1 = none ∧ h1 = h') := by
  unfold F_X12_judge_250 at hF
  refine ex_iload (q := 252) dX12_judge_250 rfl rfl ?_
  refine ex_if_ne (q := 255) (tgt := 316) dX12_judge_252 rfl (by decide) (fun c1 => ?_) (fun c1 => ?_)
  · have hF := ip c1 hF
    exact ex_forget (lo' := [some (vr 12 l0), some (vi l1), some (vi l2), some (vi l3), none, some (vi l5), none, none]) ⟨Or.inr rfl, Or.inr rfl, Or.inr rfl, Or.inr rfl, Or.inl rfl, Or.inr rfl, Or.inl rfl, Or.inl rfl, trivial⟩ (x_X12_judge_316 hag14 hF)
  · have hF := im c1 hF
    refine ex_iload (q := 257) dX12_judge_255 rfl rfl ?_
    refine ex_bipush (q := 259) dX12_judge_257 rfl (by decide) ⟨by decide, by decide⟩ ?_
    refine ex_icmp_ne (q := 262) (tgt := 316) dX12_judge_259 rfl (by decide) (fun c2 => ?_) (fun c2 => ?_)
    · have hF := ip c2 hF
      exact ex_forget (lo' := [some (vr 12 l0), some (vi l1), some (vi l2), some (vi l3), none, some (vi l5), none, none]) ⟨Or.inr rfl, Or.inr rfl, Or.inr rfl, Or.inr rfl, Or.inl rfl, Or.inr rfl, Or.inl rfl, Or.inl rfl, trivial⟩ (x_X12_judge_316 hag14 hF)
    · have hF := im c2 hF
      refine ex_iconst (q := 263) dX12_judge_262 rfl ⟨by decide, by decide⟩ ?_
      refine ex_istore (q := 265) (lo' := [some (vr 12 l0), some (vi l1), some (vi l2), some (vi l3), some (vi l4), some (vi l5), some (vi 0), none]) dX12_judge_263 rfl (by decide) rfl rfl ?_
      refine ex_iconst (q := 266) dX12_judge_265 rfl ⟨by decide, by decide⟩ ?_
      refine ex_istore (q := 268) (lo' := [some (vr 12 l0), some (vi l1), some (vi l2), some (vi l3), some (vi l4), some (vi l5), some (vi 0), some (vi 0)]) dX12_judge_266 rfl (by decide) rfl rfl ?_
      exact ex_forget (lo' := [some (vr 12 l0), some (vi l1), some (vi l2), some (vi l3), none, none, some (vi 0), some (vi 0)]) ⟨Or.inr rfl, Or.inr rfl, Or.inr rfl, Or.inr rfl, Or.inl rfl, Or.inl rfl, Or.inr rfl, Or.inr rfl, trivial⟩ (x_X12_judge_268 hag14 _ _ _ _ _ _ _ _ _ _ hF)
def F_X12_judge_198 (ag14 : Int → Int → Int → Int → zH → zO) (l0 l1 l2 l3 l4 l5 : Int) (h : zH) : zO := if l5 ≠ 0 then (F_X12_judge_250 ag14 l0 l1 l2 l3 l4 l5 h) else (zb (F_X12_begins l4 h) (fun r2 h2 => if r2 = 0 then (F_X12_judge_250 ag14 l0 l1 l2 l3 l4 l5 h2) else (if l2 ≤ 7 then (if 0 ≤ l0 then (if 0 ≤ gt h2 12 l0 23 then (if 0 ≤ l2 ∧ l2 < 50 then (if 0 ≤ gt (pt h2 66 (gt h2 12 l0 23) l2 l4) 12 l0 24 then (F_X12_judge_316 ag14 l0 l1 (wI (l2 + 1)) l3 0 (pt (pt h2 66 (gt h2 12 l0 23) l2 l4) 67 (gt (pt h2 66 (gt h2 12 l0 23) l2 l4) 12 l0 24) l2 0)) else none) else none) else none) else none) else (F_X12_judge_316 ag14 l0 l1 l2 l3 3 h2))))
set_option maxHeartbeats 1000000 in
theorem x_X12_judge_198 {ag14 : Int → Int → Int → Int → zH → zO} (hag14 : ∀ (l0 l1 l2 l3 : Int) (h : zH) (r : Int) (h' : zH), ag14 l0 l1 l2 l3 h = some (r, h') → Ex 3 M_X12_judge 14 [some (vr 12 l0), some (vi l1), some (vi l2), some (vi l3), none, none, none, none] [] h (fun r1 h1 => r1 = none ∧ h1 = h')) {l0 l1 l2 l3 l4 l5 : Int} {h : zH} {r : Int} {h' : zH} (hF : F_X12_judge_198 ag14 l0 l1 l2 l3 l4 l5 h = some (r, h')) : Ex 3 M_X12_judge 198 [some (vr 12 l0), some (vi l1), some (vi l2), some (vi l3), some (vi l4), some (vi l5), none, none] [] h (fun r1 h1 => r1 = none ∧ h1 = h') := by
  unfold F_X12_judge_198 at hF
  refine ex_iload (q := 200) dX12_judge_198 rfl rfl ?_
  refine ex_if_ne (q := 203) (tgt := 250) dX12_judge_200 rfl (by decide) (fun c1 => ?_) (fun c1 => ?_)
  · have hF := ip c1 hF
    exact ex_forget (lo' := [some (vr 12 l0), some (vi l1), some (vi l2), some (vi l3), some (vi l4), some (vi l5), none, none]) ⟨Or.inr rfl, Or.inr rfl, Or.inr rfl, Or.inr rfl, Or.inr rfl, Or.inr rfl, Or.inl rfl, Or.inl rfl, trivial⟩ (x_X12_judge_250 hag14 hF)
  · have hF := im c1 hF
    refine ex_iload (q := 205) dX12_judge_203 rfl rfl ?_
    obtain ⟨r2, h2, e2, hF⟩ := zb_some hF
    refine ex_callS (d' := 0) (q := 208) (as := [vi l4]) (st1 := [vi r2]) (r := (some (vi r2))) (h2 := h2) dX12_judge_205 rfl (run_X12_begins e2) mc_X12_begins ms_X12_begins ml_X12_206 (by decide) rfl rfl (Nat.le_of_ble_eq_true rfl) rfl ?_
    refine ex_if_eq (q := 211) (tgt := 250) dX12_judge_208 rfl (by decide) (fun c3 => ?_) (fun c3 => ?_)
    · have hF := ip c3 hF
      exact ex_forget (lo' := [some (vr 12 l0), some (vi l1), some (vi l2), some (vi l3), some (vi l4), some (vi l5), none, none]) ⟨Or.inr rfl, Or.inr rfl, Or.inr rfl, Or.inr rfl, Or.inr rfl, Or.inr rfl, Or.inl rfl, Or.inl rfl, trivial⟩ (x_X12_judge_250 hag14 hF)
    · have hF := im c3 hF
      refine ex_iload_n (q := 212) dX12_judge_211 rfl rfl ?_
      refine ex_bipush (q := 214) dX12_judge_212 rfl (by decide) ⟨by decide, by decide⟩ ?_
      refine ex_icmp_le (q := 217) (tgt := 221) dX12_judge_214 rfl (by decide) (fun c4 => ?_) (fun c4 => ?_)
      · have hF := ip c4 hF
        refine ex_iconst (q := 222) dX12_judge_221 rfl ⟨by decide, by decide⟩ ?_
        refine ex_istore (q := 224) (lo' := [some (vr 12 l0), some (vi l1), some (vi l2), some (vi l3), some (vi l4), some (vi 0), none, none]) dX12_judge_222 rfl (by decide) rfl rfl ?_
        refine ex_iload (q := 226) dX12_judge_224 rfl rfl ?_
        refine ex_if_ne (q := 229) (tgt := 316) dX12_judge_226 rfl (by decide) (fun c5 => ?_) (fun c5 => ?_)
        · exact absurd c5 (by decide)
        · refine ex_aload_n (q := 230) dX12_judge_229 rfl rfl ?_
          obtain ⟨g6, hF⟩ := zg hF
          refine ex_get (q := 233) (v := vr 66 (gt h2 12 l0 23)) 23 dX12_judge_230 rfl fl_X12_59 g6 rfl rfl ?_
          refine ex_iload_n (q := 234) dX12_judge_233 rfl rfl ?_
          refine ex_iload (q := 236) dX12_judge_234 rfl rfl ?_
          obtain ⟨g7, hF⟩ := zg hF
          obtain ⟨g8, hF⟩ := zg hF
          refine ex_iast (q := 237) dX12_judge_236 rfl kd_66 g7 g8.1 g8.2 ?_
          refine ex_aload_n (q := 238) dX12_judge_237 rfl rfl ?_
          refine ex_get (q := 241) (v := vr 67 (gt (pt h2 66 (gt h2 12 l0 23) l2 l4) 12 l0 24)) 24 dX12_judge_238 rfl fl_X12_62 g6 rfl rfl ?_
          refine ex_iload_n (q := 242) dX12_judge_241 rfl rfl ?_
          refine ex_iconst (q := 243) dX12_judge_242 rfl ⟨by decide, by decide⟩ ?_
          obtain ⟨g9, hF⟩ := zg hF
          refine ex_bast (q := 244) dX12_judge_243 rfl kd_67 g9 g8.1 g8.2 (by decide) ?_
          refine ex_iinc (q := 247) (lo' := [some (vr 12 l0), some (vi l1), some (vi (wI (l2 + 1))), some (vi l3), some (vi l4), some (vi 0), none, none]) dX12_judge_244 rfl rfl (by decide) rfl rfl ?_
          refine ex_goto (q := 316) dX12_judge_247 (by decide) ?_
          exact ex_forget (lo' := [some (vr 12 l0), some (vi l1), some (vi (wI (l2 + 1))), some (vi l3), none, some (vi 0), none, none]) ⟨Or.inr rfl, Or.inr rfl, Or.inr rfl, Or.inr rfl, Or.inl rfl, Or.inr rfl, Or.inl rfl, Or.inl rfl, trivial⟩ (x_X12_judge_316 hag14 hF)
      · have hF := im c4 hF
        refine ex_iconst (q := 218) dX12_judge_217 rfl ⟨by decide, by decide⟩ ?_
        refine ex_goto (q := 222) dX12_judge_218 (by decide) ?_
        refine ex_istore (q := 224) (lo' := [some (vr 12 l0), some (vi l1), some (vi l2), some (vi l3), some (vi l4), some (vi 3), none, none]) dX12_judge_222 rfl (by decide) rfl rfl ?_
        refine ex_iload (q := 226) dX12_judge_224 rfl rfl ?_
        refine ex_if_ne (q := 229) (tgt := 316) dX12_judge_226 rfl (by decide) (fun c10 => ?_) (fun c10 => ?_)
        · exact ex_forget (lo' := [some (vr 12 l0), some (vi l1), some (vi l2), some (vi l3), none, some (vi 3), none, none]) ⟨Or.inr rfl, Or.inr rfl, Or.inr rfl, Or.inr rfl, Or.inl rfl, Or.inr rfl, Or.inl rfl, Or.inl rfl, trivial⟩ (x_X12_judge_316 hag14 hF)
        · exact absurd (by decide) c10
def F_X12_judge_167 (ag14 : Int → Int → Int → Int → zH → zO) (l0 l1 l2 l3 l4 : Int) (h : zH) : zO := F_X12_judge_316 ag14 l0 l1 l2 l3 2 h
set_option maxHeartbeats 1000000 in
theorem x_X12_judge_167 {ag14 : Int → Int → Int → Int → zH → zO} (hag14 : ∀ (l0 l1 l2 l3 : Int) (h : zH) (r : Int) (h' : zH), ag14 l0 l1 l2 l3 h = some (r, h') → Ex 3 M_X12_judge 14 [some (vr 12 l0), some (vi l1), some (vi l2), some (vi l3), none, none, none, none] [] h (fun r1 h1 => r1 = none ∧ h1 = h')) {l0 l1 l2 l3 l4 : Int} {h : zH} {r : Int} {h' : zH} (hF : F_X12_judge_167 ag14 l0 l1 l2 l3 l4 h = some (r, h')) : Ex 3 M_X12_judge 167 [some (vr 12 l0), some (vi l1), some (vi l2), some (vi l3), some (vi l4), none, none, none] [] h (fun r1 h1 => r1 = none ∧ h1 = h') := by
  unfold F_X12_judge_167 at hF
  refine ex_iconst (q := 168) dX12_judge_167 rfl ⟨by decide, by decide⟩ ?_
  refine ex_goto (q := 172) dX12_judge_168 (by decide) ?_
  refine ex_istore (q := 174) (lo' := [some (vr 12 l0), some (vi l1), some (vi l2), some (vi l3), some (vi l4), some (vi 2), none, none]) dX12_judge_172 rfl (by decide) rfl rfl ?_
  refine ex_iload (q := 176) dX12_judge_174 rfl rfl ?_
  refine ex_if_ne (q := 179) (tgt := 316) dX12_judge_176 rfl (by decide) (fun c1 => ?_) (fun c1 => ?_)
  · exact ex_forget (lo' := [some (vr 12 l0), some (vi l1), some (vi l2), some (vi l3), none, some (vi 2), none, none]) ⟨Or.inr rfl, Or.inr rfl, Or.inr rfl, Or.inr rfl, Or.inl rfl, Or.inr rfl, Or.inl rfl, Or.inl rfl, trivial⟩ (x_X12_judge_316 hag14 hF)
  · exact absurd (by decide) c1
def F_X12_judge_139 (ag14 : Int → Int → Int → Int → zH → zO) (l0 l1 l2 l3 l4 : Int) (h : zH) : zO := if l2 = 0 then (F_X12_judge_167 ag14 l0 l1 l2 l3 l4 h) else (if 0 ≤ l0 then (if 0 ≤ gt h 12 l0 23 then (if 0 ≤ wI (l2 - 1) ∧ wI (l2 - 1) < 50 then (if gt h 66 (gt h 12 l0 23) (wI (l2 - 1)) ≠ 13 then (F_X12_judge_167 ag14 l0 l1 l2 l3 l4 h) else (if 0 ≤ gt h 12 l0 24 then (if gt h 67 (gt h 12 l0 24) (wI (l2 - 1)) = 0 then (if l4 ≠ 15 then (F_X12_judge_316 ag14 l0 l1 l2 l3 0 h) else (F_X12_judge_316 ag14 l0 l1 l2 l3 0 (pt h 67 (gt h 12 l0 24) (wI (l2 - 1)) 1))) else (F_X12_judge_167 ag14 l0 l1 l2 l3 l4 h)) else none)) else none) else none) else none)
set_option maxHeartbeats 1000000 in
theorem x_X12_judge_139 {ag14 : Int → Int → Int → Int → zH → zO} (hag14 : ∀ (l0 l1 l2 l3 : Int) (h : zH) (r : Int) (h' : zH), ag14 l0 l1 l2 l3 h = some (r, h') → Ex 3 M_X12_judge 14 [some (vr 12 l0), some (vi l1), some (vi l2), some (vi l3), none, none, none, none] [] h (fun r1 h1 => r1 = none ∧ h1 = h')) {l0 l1 l2 l3 l4 : Int} {h : zH} {r : Int} {h' : zH} (hF : F_X12_judge_139 ag14 l0 l1 l2 l3 l4 h = some (r, h')) : Ex 3 M_X12_judge 139 [some (vr 12 l0), some (vi l1), some (vi l2), some (vi l3), some (vi l4), none, none, none] [] h (fun r1 h1 => r1 = none ∧ h1 = h') := by
  unfold F_X12_judge_139 at hF
  refine ex_iload_n (q := 140) dX12_judge_139 rfl rfl ?_
  refine ex_if_eq (q := 143) (tgt := 167) dX12_judge_140 rfl (by decide) (fun c1 => ?_) (fun c1 => ?_)
  · have hF := ip c1 hF
    exact ex_forget (lo' := [some (vr 12 l0), some (vi l1), some (vi l2), some (vi l3), some (vi l4), none, none, none]) ⟨Or.inr rfl, Or.inr rfl, Or.inr rfl, Or.inr rfl, Or.inr rfl, Or.inl rfl, Or.inl rfl, Or.inl rfl, trivial⟩ (x_X12_judge_167 hag14 hF)
  · have hF := im c1 hF
    refine ex_aload_n (q := 144) dX12_judge_143 rfl rfl ?_
    obtain ⟨g2, hF⟩ := zg hF
    refine ex_get (q := 147) (v := vr 66 (gt h 12 l0 23)) 23 dX12_judge_144 rfl fl_X12_59 g2 rfl rfl ?_
    refine ex_iload_n (q := 148) dX12_judge_147 rfl rfl ?_
    refine ex_iconst (q := 149) dX12_judge_148 rfl ⟨by decide, by decide⟩ ?_
    refine ex_isub (q := 150) dX12_judge_149 rfl ?_
    obtain ⟨g3, hF⟩ := zg hF
    obtain ⟨g4, hF⟩ := zg hF
    refine ex_iald (q := 151) dX12_judge_150 rfl kd_66 g3 g4.1 g4.2 ?_
    refine ex_bipush (q := 153) dX12_judge_151 rfl (by decide) ⟨by decide, by decide⟩ ?_
    refine ex_icmp_ne (q := 156) (tgt := 167) dX12_judge_153 rfl (by decide) (fun c5 => ?_) (fun c5 => ?_)
    · have hF := ip c5 hF
      exact ex_forget (lo' := [some (vr 12 l0), some (vi l1), some (vi l2), some (vi l3), some (vi l4), none, none, none]) ⟨Or.inr rfl, Or.inr rfl, Or.inr rfl, Or.inr rfl, Or.inr rfl, Or.inl rfl, Or.inl rfl, Or.inl rfl, trivial⟩ (x_X12_judge_167 hag14 hF)
    · have hF := im c5 hF
      refine ex_aload_n (q := 157) dX12_judge_156 rfl rfl ?_
      refine ex_get (q := 160) (v := vr 67 (gt h 12 l0 24)) 24 dX12_judge_157 rfl fl_X12_62 g2 rfl rfl ?_
      refine ex_iload_n (q := 161) dX12_judge_160 rfl rfl ?_
      refine ex_iconst (q := 162) dX12_judge_161 rfl ⟨by decide, by decide⟩ ?_
      refine ex_isub (q := 163) dX12_judge_162 rfl ?_
      obtain ⟨g6, hF⟩ := zg hF
      refine ex_bald (q := 164) dX12_judge_163 rfl kd_67 g6 g4.1 g4.2 ?_
      refine ex_if_eq (q := 167) (tgt := 171) dX12_judge_164 rfl (by decide) (fun c7 => ?_) (fun c7 => ?_)
      · have hF := ip c7 hF
        refine ex_iconst (q := 172) dX12_judge_171 rfl ⟨by decide, by decide⟩ ?_
        refine ex_istore (q := 174) (lo' := [some (vr 12 l0), some (vi l1), some (vi l2), some (vi l3), some (vi l4), some (vi 0), none, none]) dX12_judge_172 rfl (by decide) rfl rfl ?_
        refine ex_iload (q := 176) dX12_judge_174 rfl rfl ?_
        refine ex_if_ne (q := 179) (tgt := 316) dX12_judge_176 rfl (by decide) (fun c8 => ?_) (fun c8 => ?_)
        · exact absurd c8 (by decide)
        · refine ex_iload (q := 181) dX12_judge_179 rfl rfl ?_
          refine ex_bipush (q := 183) dX12_judge_181 rfl (by decide) ⟨by decide, by decide⟩ ?_
          refine ex_icmp_ne (q := 186) (tgt := 316) dX12_judge_183 rfl (by decide) (fun c9 => ?_) (fun c9 => ?_)
          · have hF := ip c9 hF
            exact ex_forget (lo' := [some (vr 12 l0), some (vi l1), some (vi l2), some (vi l3), none, some (vi 0), none, none]) ⟨Or.inr rfl, Or.inr rfl, Or.inr rfl, Or.inr rfl, Or.inl rfl, Or.inr rfl, Or.inl rfl, Or.inl rfl, trivial⟩ (x_X12_judge_316 hag14 hF)
          · have hF := im c9 hF
            refine ex_aload_n (q := 187) dX12_judge_186 rfl rfl ?_
            refine ex_get (q := 190) (v := vr 67 (gt h 12 l0 24)) 24 dX12_judge_187 rfl fl_X12_62 g2 rfl rfl ?_
            refine ex_iload_n (q := 191) dX12_judge_190 rfl rfl ?_
            refine ex_iconst (q := 192) dX12_judge_191 rfl ⟨by decide, by decide⟩ ?_
            refine ex_isub (q := 193) dX12_judge_192 rfl ?_
            refine ex_iconst (q := 194) dX12_judge_193 rfl ⟨by decide, by decide⟩ ?_
            refine ex_bast (q := 195) dX12_judge_194 rfl kd_67 g6 g4.1 g4.2 (by decide) ?_
            refine ex_goto (q := 316) dX12_judge_195 (by decide) ?_
            exact ex_forget (lo' := [some (vr 12 l0), some (vi l1), some (vi l2), some (vi l3), none, some (vi 0), none, none]) ⟨Or.inr rfl, Or.inr rfl, Or.inr rfl, Or.inr rfl, Or.inl rfl, Or.inr rfl, Or.inl rfl, Or.inl rfl, trivial⟩ (x_X12_judge_316 hag14 hF)
      · have hF := im c7 hF
        exact ex_forget (lo' := [some (vr 12 l0), some (vi l1), some (vi l2), some (vi l3), some (vi l4), none, none, none]) ⟨Or.inr rfl, Or.inr rfl, Or.inr rfl, Or.inr rfl, Or.inr rfl, Or.inl rfl, Or.inl rfl, Or.inl rfl, trivial⟩ (x_X12_judge_167 hag14 hF)
def F_X12_judge_120 (ag14 : Int → Int → Int → Int → zH → zO) (l0 l1 l2 l3 l4 l5 : Int) (h : zH) : zO := if l5 ≠ 0 then (F_X12_judge_198 ag14 l0 l1 l2 l3 l4 l5 h) else (if l4 = 14 then (F_X12_judge_139 ag14 l0 l1 l2 l3 l4 h) else (if l4 ≠ 15 then (F_X12_judge_198 ag14 l0 l1 l2 l3 l4 l5 h) else (F_X12_judge_139 ag14 l0 l1 l2 l3 l4 h)))
set_option maxHeartbeats 1000000 in
theorem x_X12_judge_120 {ag14 : Int → Int → Int → Int → zH → zO} (hag14 : ∀ (l0 l1 l2 l3 : Int) (h : zH) (r : Int) (h' : zH), ag14 l0 l1 l2 l3 h = some (r, h') → Ex 3 M_X12_judge 14 [some (vr 12 l0), some (vi l1), some (vi l2), some (vi l3), none, none, none, none] [] h (fun r1 h1 => r1 = none ∧ h1 = h')) {l0 l1 l2 l3 l4 l5 : Int} {h : zH} {r : Int} {h' : zH} (hF : F_X12_judge_120 ag14 l0 l1 l2 l3 l4 l5 h = some (r, h')) : Ex 3 M_X12_judge 120 [some (vr 12 l0), some (vi l1), some (vi l2), some (vi l3), some (vi l4), some (vi l5), none, none] [] h (fun r1 h1 => r1 = none ∧ h1 = h') := by
  unfold F_X12_judge_120 at hF
  refine ex_iload (q := 122) dX12_judge_120 rfl rfl ?_
  refine ex_if_ne (q := 125) (tgt := 198) dX12_judge_122 rfl (by decide) (fun c1 => ?_) (fun c1 => ?_)
  · have hF := ip c1 hF
    exact ex_forget (lo' := [some (vr 12 l0), some (vi l1), some (vi l2), some (vi l3), some (vi l4), some (vi l5), none, none]) ⟨Or.inr rfl, Or.inr rfl, Or.inr rfl, Or.inr rfl, Or.inr rfl, Or.inr rfl, Or.inl rfl, Or.inl rfl, trivial⟩ (x_X12_judge_198 hag14 hF)
  · have hF := im c1 hF
    refine ex_iload (q := 127) dX12_judge_125 rfl rfl ?_
    refine ex_bipush (q := 129) dX12_judge_127 rfl (by decide) ⟨by decide, by decide⟩ ?_
    refine ex_icmp_eq (q := 132) (tgt := 139) dX12_judge_129 rfl (by decide) (fun c2 => ?_) (fun c2 => ?_)
    · have hF := ip c2 hF
      exact ex_forget (lo' := [some (vr 12 l0), some (vi l1), some (vi l2), some (vi l3), some (vi l4), none, none, none]) ⟨Or.inr rfl, Or.inr rfl, Or.inr rfl, Or.inr rfl, Or.inr rfl, Or.inl rfl, Or.inl rfl, Or.inl rfl, trivial⟩ (x_X12_judge_139 hag14 hF)
    · have hF := im c2 hF
      refine ex_iload (q := 134) dX12_judge_132 rfl rfl ?_
      refine ex_bipush (q := 136) dX12_judge_134 rfl (by decide) ⟨by decide, by decide⟩ ?_
      refine ex_icmp_ne (q := 139) (tgt := 198) dX12_judge_136 rfl (by decide) (fun c3 => ?_) (fun c3 => ?_)
      · have hF := ip c3 hF
        exact ex_forget (lo' := [some (vr 12 l0), some (vi l1), some (vi l2), some (vi l3), some (vi l4), some (vi l5), none, none]) ⟨Or.inr rfl, Or.inr rfl, Or.inr rfl, Or.inr rfl, Or.inr rfl, Or.inr rfl, Or.inl rfl, Or.inl rfl, trivial⟩ (x_X12_judge_198 hag14 hF)
      · have hF := im c3 hF
        exact ex_forget (lo' := [some (vr 12 l0), some (vi l1), some (vi l2), some (vi l3), some (vi l4), none, none, none]) ⟨Or.inr rfl, Or.inr rfl, Or.inr rfl, Or.inr rfl, Or.inr rfl, Or.inl rfl, Or.inl rfl, Or.inl rfl, trivial⟩ (x_X12_judge_139 hag14 hF)
def F_X12_judge_14b (ag14 : Int → Int → Int → Int → zH → zO) (l0 l1 l2 l3 : Int) (h : zH) : zO := if 0 ≤ l0 then (if 0 ≤ gt h 12 l0 17 then (if 0 ≤ l1 ∧ l1 < 12 then (if gt h 62 (gt h 12 l0 17) l1 ≤ l3 then (F_X12_judge_338 l0 l1 l2 h) else (if gt h 12 l0 21 ≠ 0 then (F_X12_judge_338 l0 l1 l2 h) else (if 0 ≤ gt h 12 l0 18 then (if 0 ≤ wI ((wI (40 * l1)) + l3) ∧ wI ((wI (40 * l1)) + l3) < 480 then (if 0 ≤ gt h 12 l0 19 then (if 0 ≤ gt h 12 l0 20 then (zb (F_X12_isWrong (gt h 63 (gt h 12 l0 18) (wI ((wI (40 * l1)) + l3))) (gt h 64 (gt h 12 l0 19) (wI ((wI (40 * l1)) + l3))) (gt h 65 (gt h 12 l0 20) (wI ((wI (40 * l1)) + l3))) h) (fun r10 h10 => if r10 = 0 then (if gt h 63 (gt h 12 l0 18) (wI ((wI (40 * l1)) + l3)) ≠ 16 then (F_X12_judge_120 ag14 l0 l1 l2 l3 (gt h 63 (gt h 12 l0 18) (wI ((wI (40 * l1)) + l3))) 0 h10) else (if l2 ≠ 0 then (F_X12_judge_316 ag14 l0 l1 (wI (l2 - 1)) l3 0 h10) else (F_X12_judge_316 ag14 l0 l1 (wI (l2 - 0)) l3 2 h10))) else (F_X12_judge_120 ag14 l0 l1 l2 l3 (gt h 63 (gt h 12 l0 18) (wI ((wI (40 * l1)) + l3))) 1 h10))) else none) else none) else none) else none))) else none) else none) else none
set_option maxHeartbeats 1000000 in
theorem x_X12_judge_14b {ag14 : Int → Int → Int → Int → zH → zO} (hag14 : ∀ (l0 l1 l2 l3 : Int) (h : zH) (r : Int) (h' : zH), ag14 l0 l1 l2 l3 h = some (r, h') → Ex 3 M_X12_judge 14 [some (vr 12 l0), some (vi l1), some (vi l2), some (vi l3), none, none, none, none] [] h (fun r1 h1 => r1 = none ∧ h1 = h')) {l0 l1 l2 l3 : Int} {h : zH} {r : Int} {h' : zH} (hF : F_X12_judge_14b ag14 l0 l1 l2 l3 h = some (r, h')) : Ex 3 M_X12_judge 14 [some (vr 12 l0), some (vi l1), some (vi l2), some (vi l3), none, none, none, none] [] h (fun r1 h1 => r1 = none ∧ h1 = h') := by
  unfold F_X12_judge_14b at hF
  refine ex_iload_n (q := 15) dX12_judge_14 rfl rfl ?_
  refine ex_aload_n (q := 16) dX12_judge_15 rfl rfl ?_
  obtain ⟨g1, hF⟩ := zg hF
  refine ex_get (q := 19) (v := vr 62 (gt h 12 l0 17)) 17 dX12_judge_16 rfl fl_X12_47 g1 rfl rfl ?_
  refine ex_iload_n (q := 20) dX12_judge_19 rfl rfl ?_
  obtain ⟨g2, hF⟩ := zg hF
  obtain ⟨g3, hF⟩ := zg hF
  refine ex_iald (q := 21) dX12_judge_20 rfl kd_62 g2 g3.1 g3.2 ?_
  refine ex_icmp_ge (q := 24) (tgt := 338) dX12_judge_21 rfl (by decide) (fun c4 => ?_) (fun c4 => ?_)
  · have hF := ip c4 hF
    exact ex_forget (lo' := [some (vr 12 l0), some (vi l1), some (vi l2), none, none, none, none, none]) ⟨Or.inr rfl, Or.inr rfl, Or.inr rfl, Or.inl rfl, Or.inl rfl, Or.inl rfl, Or.inl rfl, Or.inl rfl, trivial⟩ (x_X12_judge_338 hF)
  · have hF := im c4 hF
    refine ex_aload_n (q := 25) dX12_judge_24 rfl rfl ?_
    refine ex_get (q := 28) (v := vi (gt h 12 l0 21)) 21 dX12_judge_25 rfl fl_X12_196 g1 rfl rfl ?_
    refine ex_if_ne (q := 31) (tgt := 338) dX12_judge_28 rfl (by decide) (fun c5 => ?_) (fun c5 => ?_)
    · have hF := ip c5 hF
      exact ex_forget (lo' := [some (vr 12 l0), some (vi l1), some (vi l2), none, none, none, none, none]) ⟨Or.inr rfl, Or.inr rfl, Or.inr rfl, Or.inl rfl, Or.inl rfl, Or.inl rfl, Or.inl rfl, Or.inl rfl, trivial⟩ (x_X12_judge_338 hF)
    · have hF := im c5 hF
      refine ex_aload_n (q := 32) dX12_judge_31 rfl rfl ?_
      refine ex_get (q := 35) (v := vr 63 (gt h 12 l0 18)) 18 dX12_judge_32 rfl fl_X12_50 g1 rfl rfl ?_
      refine ex_bipush (q := 37) dX12_judge_35 rfl (by decide) ⟨by decide, by decide⟩ ?_
      refine ex_iload_n (q := 38) dX12_judge_37 rfl rfl ?_
      refine ex_imul (q := 39) dX12_judge_38 rfl ?_
      refine ex_iload_n (q := 40) dX12_judge_39 rfl rfl ?_
      refine ex_iadd (q := 41) dX12_judge_40 rfl ?_
      obtain ⟨g6, hF⟩ := zg hF
      obtain ⟨g7, hF⟩ := zg hF
      refine ex_iald (q := 42) dX12_judge_41 rfl kd_63 g6 g7.1 g7.2 ?_
      refine ex_istore (q := 44) (lo' := [some (vr 12 l0), some (vi l1), some (vi l2), some (vi l3), some (vi (gt h 63 (gt h 12 l0 18) (wI ((wI (40 * l1)) + l3)))), none, none, none]) dX12_judge_42 rfl (by decide) rfl rfl ?_
      refine ex_iload (q := 46) dX12_judge_44 rfl rfl ?_
      refine ex_aload_n (q := 47) dX12_judge_46 rfl rfl ?_
      refine ex_get (q := 50) (v := vr 64 (gt h 12 l0 19)) 19 dX12_judge_47 rfl fl_X12_53 g1 rfl rfl ?_
      refine ex_bipush (q := 52) dX12_judge_50 rfl (by decide) ⟨by decide, by decide⟩ ?_
      refine ex_iload_n (q := 53) dX12_judge_52 rfl rfl ?_
      refine ex_imul (q := 54) dX12_judge_53 rfl ?_
      refine ex_iload_n (q := 55) dX12_judge_54 rfl rfl ?_
      refine ex_iadd (q := 56) dX12_judge_55 rfl ?_
      obtain ⟨g8, hF⟩ := zg hF
      refine ex_iald (q := 57) dX12_judge_56 rfl kd_64 g8 g7.1 g7.2 ?_
      refine ex_aload_n (q := 58) dX12_judge_57 rfl rfl ?_
      refine ex_get (q := 61) (v := vr 65 (gt h 12 l0 20)) 20 dX12_judge_58 rfl fl_X12_56 g1 rfl rfl ?_
      refine ex_bipush (q := 63) dX12_judge_61 rfl (by decide) ⟨by decide, by decide⟩ ?_
      refine ex_iload_n (q := 64) dX12_judge_63 rfl rfl ?_
      refine ex_imul (q := 65) dX12_judge_64 rfl ?_
      refine ex_iload_n (q := 66) dX12_judge_65 rfl rfl ?_
      refine ex_iadd (q := 67) dX12_judge_66 rfl ?_
      obtain ⟨g9, hF⟩ := zg hF
      refine ex_iald (q := 68) dX12_judge_67 rfl kd_65 g9 g7.1 g7.2 ?_
      obtain ⟨r10, h10, e10, hF⟩ := zb_some hF
      refine ex_callS (d' := 2) (q := 71) (as := [vi (gt h 63 (gt h 12 l0 18) (wI ((wI (40 * l1)) + l3))), vi (gt h 64 (gt h 12 l0 19) (wI ((wI (40 * l1)) + l3))), vi (gt h 65 (gt h 12 l0 20) (wI ((wI (40 * l1)) + l3)))]) (st1 := [vi r10]) (r := (some (vi r10))) (h2 := h10) dX12_judge_68 rfl (run_X12_isWrong e10) mc_X12_isWrong ms_X12_isWrong ml_X12_202 (by decide) rfl rfl (Nat.le_of_ble_eq_true rfl) rfl ?_
      refine ex_if_eq (q := 74) (tgt := 78) dX12_judge_71 rfl (by decide) (fun c11 => ?_) (fun c11 => ?_)
      · have hF := ip c11 hF
        refine ex_iconst (q := 79) dX12_judge_78 rfl ⟨by decide, by decide⟩ ?_
        refine ex_istore (q := 81) (lo' := [some (vr 12 l0), some (vi l1), some (vi l2), some (vi l3), some (vi (gt h 63 (gt h 12 l0 18) (wI ((wI (40 * l1)) + l3)))), some (vi 0), none, none]) dX12_judge_79 rfl (by decide) rfl rfl ?_
        refine ex_iload (q := 83) dX12_judge_81 rfl rfl ?_
        refine ex_if_ne (q := 86) (tgt := 120) dX12_judge_83 rfl (by decide) (fun c12 => ?_) (fun c12 => ?_)
        · exact absurd c12 (by decide)
        · refine ex_iload (q := 88) dX12_judge_86 rfl rfl ?_
          refine ex_bipush (q := 90) dX12_judge_88 rfl (by decide) ⟨by decide, by decide⟩ ?_
          refine ex_icmp_ne (q := 93) (tgt := 120) dX12_judge_90 rfl (by decide) (fun c13 => ?_) (fun c13 => ?_)
          · have hF := ip c13 hF
            exact ex_forget (lo' := [some (vr 12 l0), some (vi l1), some (vi l2), some (vi l3), some (vi (gt h 63 (gt h 12 l0 18) (wI ((wI (40 * l1)) + l3)))), some (vi 0), none, none]) ⟨Or.inr rfl, Or.inr rfl, Or.inr rfl, Or.inr rfl, Or.inr rfl, Or.inr rfl, Or.inl rfl, Or.inl rfl, trivial⟩ (x_X12_judge_120 hag14 hF)
          · have hF := im c13 hF
            refine ex_iload_n (q := 94) dX12_judge_93 rfl rfl ?_
            refine ex_if_ne (q := 97) (tgt := 101) dX12_judge_94 rfl (by decide) (fun c14 => ?_) (fun c14 => ?_)
            · have hF := ip c14 hF
              refine ex_iconst (q := 102) dX12_judge_101 rfl ⟨by decide, by decide⟩ ?_
              refine ex_istore (q := 104) (lo' := [some (vr 12 l0), some (vi l1), some (vi l2), some (vi l3), some (vi (gt h 63 (gt h 12 l0 18) (wI ((wI (40 * l1)) + l3)))), some (vi 0), none, none]) dX12_judge_102 rfl (by decide) rfl rfl ?_
              refine ex_iload_n (q := 105) dX12_judge_104 rfl rfl ?_
              refine ex_iload (q := 107) dX12_judge_105 rfl rfl ?_
              refine ex_if_ne (q := 110) (tgt := 114) dX12_judge_107 rfl (by decide) (fun c15 => ?_) (fun c15 => ?_)
              · exact absurd c15 (by decide)
              · refine ex_iconst (q := 111) dX12_judge_110 rfl ⟨by decide, by decide⟩ ?_
                refine ex_goto (q := 115) dX12_judge_111 (by decide) ?_
                refine ex_isub (q := 116) dX12_judge_115 rfl ?_
                refine ex_istore_n (q := 117) (lo' := [some (vr 12 l0), some (vi l1), some (vi (wI (l2 - 1))), some (vi l3), some (vi (gt h 63 (gt h 12 l0 18) (wI ((wI (40 * l1)) + l3)))), some (vi 0), none, none]) dX12_judge_116 rfl (by decide) rfl rfl ?_
                refine ex_goto (q := 316) dX12_judge_117 (by decide) ?_
                exact ex_forget (lo' := [some (vr 12 l0), some (vi l1), some (vi (wI (l2 - 1))), some (vi l3), none, some (vi 0), none, none]) ⟨Or.inr rfl, Or.inr rfl, Or.inr rfl, Or.inr rfl, Or.inl rfl, Or.inr rfl, Or.inl rfl, Or.inl rfl, trivial⟩ (x_X12_judge_316 hag14 hF)
            · have hF := im c14 hF
              refine ex_iconst (q := 98) dX12_judge_97 rfl ⟨by decide, by decide⟩ ?_
              refine ex_goto (q := 102) dX12_judge_98 (by decide) ?_
              refine ex_istore (q := 104) (lo' := [some (vr 12 l0), some (vi l1), some (vi l2), some (vi l3), some (vi (gt h 63 (gt h 12 l0 18) (wI ((wI (40 * l1)) + l3)))), some (vi 2), none, none]) dX12_judge_102 rfl (by decide) rfl rfl ?_
              refine ex_iload_n (q := 105) dX12_judge_104 rfl rfl ?_
              refine ex_iload (q := 107) dX12_judge_105 rfl rfl ?_
              refine ex_if_ne (q := 110) (tgt := 114) dX12_judge_107 rfl (by decide) (fun c16 => ?_) (fun c16 => ?_)
              · refine ex_iconst (q := 115) dX12_judge_114 rfl ⟨by decide, by decide⟩ ?_
                refine ex_isub (q := 116) dX12_judge_115 rfl ?_
                refine ex_istore_n (q := 117) (lo' := [some (vr 12 l0), some (vi l1), some (vi (wI (l2 - 0))), some (vi l3), some (vi (gt h 63 (gt h 12 l0 18) (wI ((wI (40 * l1)) + l3)))), some (vi 2), none, none]) dX12_judge_116 rfl (by decide) rfl rfl ?_
                refine ex_goto (q := 316) dX12_judge_117 (by decide) ?_
                exact ex_forget (lo' := [some (vr 12 l0), some (vi l1), some (vi (wI (l2 - 0))), some (vi l3), none, some (vi 2), none, none]) ⟨Or.inr rfl, Or.inr rfl, Or.inr rfl, Or.inr rfl, Or.inl rfl, Or.inr rfl, Or.inl rfl, Or.inl rfl, trivial⟩ (x_X12_judge_316 hag14 hF)
              · exact absurd (by decide) c16
      · have hF := im c11 hF
        refine ex_iconst (q := 75) dX12_judge_74 rfl ⟨by decide, by decide⟩ ?_
        refine ex_goto (q := 79) dX12_judge_75 (by decide) ?_
        refine ex_istore (q := 81) (lo' := [some (vr 12 l0), some (vi l1), some (vi l2), some (vi l3), some (vi (gt h 63 (gt h 12 l0 18) (wI ((wI (40 * l1)) + l3)))), some (vi 1), none, none]) dX12_judge_79 rfl (by decide) rfl rfl ?_
        refine ex_iload (q := 83) dX12_judge_81 rfl rfl ?_
        refine ex_if_ne (q := 86) (tgt := 120) dX12_judge_83 rfl (by decide) (fun c17 => ?_) (fun c17 => ?_)
        · exact ex_forget (lo' := [some (vr 12 l0), some (vi l1), some (vi l2), some (vi l3), some (vi (gt h 63 (gt h 12 l0 18) (wI ((wI (40 * l1)) + l3)))), some (vi 1), none, none]) ⟨Or.inr rfl, Or.inr rfl, Or.inr rfl, Or.inr rfl, Or.inr rfl, Or.inr rfl, Or.inl rfl, Or.inl rfl, trivial⟩ (x_X12_judge_120 hag14 hF)
        · exact absurd (by decide) c17
def F_X12_judge_14 : Nat → Int → Int → Int → Int → zH → zO
  | 0, _, _, _, _, _ => none
  | n + 1, l0, l1, l2, l3, h => F_X12_judge_14b (F_X12_judge_14 n) l0 l1 l2 l3 h
theorem x_X12_judge_14 : ∀ (n : Nat) (l0 l1 l2 l3 : Int) (h : zH) (r : Int) (h' : zH), F_X12_judge_14 n l0 l1 l2 l3 h = some (r, h') → Ex 3 M_X12_judge 14 [some (vr 12 l0), some (vi l1), some (vi l2), some (vi l3), none, none, none, none] [] h (fun r1 h1 => r1 = none ∧ h1 = h')
  | 0, _, _, _, _, _, _, _, hF => by cases hF
  | n + 1, _, _, _, _, _, _, _, hF => x_X12_judge_14b (x_X12_judge_14 n) hF
def F_X12_judge_0 (l0 l1 : Int) (h : zH) : zO := if 0 ≤ l0 then (F_X12_judge_14 zF l0 l1 0 0 (pt (pt h 12 l0 21 0) 12 l0 22 (-1))) else none
set_option maxHeartbeats 1000000 in
theorem x_X12_judge_0 {l0 l1 : Int} {h : zH} {r : Int} {h' : zH} (hF : F_X12_judge_0 l0 l1 h = some (r, h')) : Ex 3 M_X12_judge 0 [some (vr 12 l0), some (vi l1), none, none, none, none, none, none] [] h (fun r1 h1 => r1 = none ∧ h1 = h') := by
  unfold F_X12_judge_0 at hF
  refine ex_aload_n (q := 1) dX12_judge_0 rfl rfl ?_
  refine ex_iconst (q := 2) dX12_judge_1 rfl ⟨by decide, by decide⟩ ?_
  obtain ⟨g1, hF⟩ := zg hF
  refine ex_put (q := 5) 21 dX12_judge_2 rfl fl_X12_196 (by decide) g1 rfl rfl (fun z => by cases z) ?_
  refine ex_aload_n (q := 6) dX12_judge_5 rfl rfl ?_
  refine ex_iconst (q := 7) dX12_judge_6 rfl ⟨by decide, by decide⟩ ?_
  refine ex_put (q := 10) 22 dX12_judge_7 rfl fl_X12_199 (by decide) g1 rfl rfl (fun z => by cases z) ?_
  refine ex_iconst (q := 11) dX12_judge_10 rfl ⟨by decide, by decide⟩ ?_
  refine ex_istore_n (q := 12) (lo' := [some (vr 12 l0), some (vi l1), some (vi 0), none, none, none, none, none]) dX12_judge_11 rfl (by decide) rfl rfl ?_
  refine ex_iconst (q := 13) dX12_judge_12 rfl ⟨by decide, by decide⟩ ?_
  refine ex_istore_n (q := 14) (lo' := [some (vr 12 l0), some (vi l1), some (vi 0), some (vi 0), none, none, none, none]) dX12_judge_13 rfl (by decide) rfl rfl ?_
  exact ex_forget (lo' := [some (vr 12 l0), some (vi l1), some (vi 0), some (vi 0), none, none, none, none]) ⟨Or.inr rfl, Or.inr rfl, Or.inr rfl, Or.inr rfl, Or.inl rfl, Or.inl rfl, Or.inl rfl, Or.inl rfl, trivial⟩ (x_X12_judge_14 _ _ _ _ _ _ _ _ hF)
def F_X12_judge (l0 l1 : Int) (h : zH) : zO := F_X12_judge_0 l0 l1 h
theorem run_X12_judge {l0 l1 : Int} {h : zH} {r : Int} {h' : zH} (hF : F_X12_judge l0 l1 h = some (r, h')) : Run 3 yX12_judge cX12_judge 8 none [vr 12 l0, vi l1] h none h' := run_of (M := M_X12_judge) (by decide) rfl (fun z => by cases z) (Nat.le_of_ble_eq_true rfl) (x_X12_judge_0 hF)
abbrev M_X12_fault : zM := (RX12, (cX12_fault, (3, ((some .int), false))))
def F_X12_fault_0 (l0 l1 l2 : Int) (h : zH) : zO := if 0 ≤ l0 then (zb (F_X12_noAct l0 l1 h) (fun r1 h1 => if r1 = 0 then (zb (F_X12_in l2 0 1 h1) (fun r4 h4 => if r4 ≠ 0 then (zb (F_X12_judge l0 l1 h4) (fun r6 h6 => if l2 ≠ 0 then (some (gt h6 12 l0 22, h6)) else (some (gt h6 12 l0 21, h6)))) else (some ((-102), h4)))) else (some ((-101), h1)))) else none
set_option maxHeartbeats 1000000 in
theorem x_X12_fault_0 {l0 l1 l2 : Int} {h : zH} {r : Int} {h' : zH} (hF : F_X12_fault_0 l0 l1 l2 h = some (r, h')) : Ex 4 M_X12_fault 0 [some (vr 12 l0), some (vi l1), some (vi l2)] [] h (fun r1 h1 => r1 = some (vi r) ∧ h1 = h') := by
  unfold F_X12_fault_0 at hF
  refine ex_aload_n (q := 1) dX12_fault_0 rfl rfl ?_
  refine ex_iload_n (q := 2) dX12_fault_1 rfl rfl ?_
  obtain ⟨g2, hF⟩ := zg hF
  obtain ⟨r1, h1, e1, hF⟩ := zb_some hF
  refine ex_callV (d' := 1) (q := 5) (as := [vi l1]) (st1 := [vi r1]) (r := (some (vi r1))) (h2 := h1) dX12_fault_2 rfl (run_X12_noAct e1) mc_X12_noAct mv_X12_noAct ml_X12_180 (by decide) g2 rfl rfl (Nat.le_of_ble_eq_true rfl) rfl ?_
  refine ex_if_eq (q := 8) (tgt := 11) dX12_fault_5 rfl (by decide) (fun c3 => ?_) (fun c3 => ?_)
  · have hF := ip c3 hF
    refine ex_iload_n (q := 12) dX12_fault_11 rfl rfl ?_
    refine ex_i2l (q := 13) dX12_fault_12 rfl ?_
    refine ex_lconst (q := 14) 0 dX12_fault_13 rfl rfl ⟨by decide, by decide⟩ ?_
    refine ex_lconst (q := 15) 1 dX12_fault_14 rfl rfl ⟨by decide, by decide⟩ ?_
    obtain ⟨r4, h4, e4, hF⟩ := zb_some hF
    refine ex_callS (d' := 0) (q := 18) (as := [vl l2, vl 0, vl 1]) (st1 := [vi r4]) (r := (some (vi r4))) (h2 := h4) dX12_fault_15 rfl (run_X12_in e4) mc_X12_in ms_X12_in ml_X12_147 (by decide) rfl rfl (Nat.le_of_ble_eq_true rfl) rfl ?_
    refine ex_if_ne (q := 21) (tgt := 24) dX12_fault_18 rfl (by decide) (fun c5 => ?_) (fun c5 => ?_)
    · have hF := ip c5 hF
      refine ex_aload_n (q := 25) dX12_fault_24 rfl rfl ?_
      refine ex_iload_n (q := 26) dX12_fault_25 rfl rfl ?_
      obtain ⟨r6, h6, e6, hF⟩ := zb_some hF
      refine ex_callV (d' := 3) (q := 29) (as := [vi l1]) (st1 := []) (r := none) (h2 := h6) dX12_fault_26 rfl (run_X12_judge e6) mc_X12_judge mv_X12_judge ml_X12_209 (by decide) g2 rfl rfl (Nat.le_of_ble_eq_true rfl) rfl ?_
      refine ex_iload_n (q := 30) dX12_fault_29 rfl rfl ?_
      refine ex_if_ne (q := 33) (tgt := 40) dX12_fault_30 rfl (by decide) (fun c7 => ?_) (fun c7 => ?_)
      · have hF := ip c7 hF
        refine ex_aload_n (q := 41) dX12_fault_40 rfl rfl ?_
        refine ex_get (q := 44) (v := vi (gt h6 12 l0 22)) 22 dX12_fault_41 rfl fl_X12_199 g2 rfl rfl ?_
        obtain ⟨rfl, rfl⟩ := zr hF
        exact ex_ret (some (vi (gt h6 12 l0 22))) rfl ⟨dX12_fault_44, Or.inl rfl⟩ ⟨rfl, rfl⟩
      · have hF := im c7 hF
        refine ex_aload_n (q := 34) dX12_fault_33 rfl rfl ?_
        refine ex_get (q := 37) (v := vi (gt h6 12 l0 21)) 21 dX12_fault_34 rfl fl_X12_196 g2 rfl rfl ?_
        refine ex_goto (q := 44) dX12_fault_37 (by decide) ?_
        obtain ⟨rfl, rfl⟩ := zr hF
        exact ex_ret (some (vi (gt h6 12 l0 21))) rfl ⟨dX12_fault_44, Or.inl rfl⟩ ⟨rfl, rfl⟩
    · have hF := im c5 hF
      refine ex_bipush (q := 23) dX12_fault_21 rfl (by decide) ⟨by decide, by decide⟩ ?_
      obtain ⟨rfl, rfl⟩ := zr hF
      exact ex_ret (some (vi (-102))) rfl ⟨dX12_fault_23, Or.inl rfl⟩ ⟨rfl, rfl⟩
  · have hF := im c3 hF
    refine ex_bipush (q := 10) dX12_fault_8 rfl (by decide) ⟨by decide, by decide⟩ ?_
    obtain ⟨rfl, rfl⟩ := zr hF
    exact ex_ret (some (vi (-101))) rfl ⟨dX12_fault_10, Or.inl rfl⟩ ⟨rfl, rfl⟩
def F_X12_fault (l0 l1 l2 : Int) (h : zH) : zO := F_X12_fault_0 l0 l1 l2 h
theorem run_X12_fault {l0 l1 l2 : Int} {h : zH} {r : Int} {h' : zH} (hF : F_X12_fault l0 l1 l2 h = some (r, h')) : Run 4 yX12_fault cX12_fault 3 (some .int) [vr 12 l0, vi l1, vi l2] h (some (vi r)) h' := run_of (M := M_X12_fault) (by decide) rfl (fun z => by cases z) (Nat.le_of_ble_eq_true rfl) (x_X12_fault_0 hF)
abbrev M_X12_begin : zM := (RX12, (cX12_begin, (4, (none, false))))
def F_X12_begin_0 (l0 l1 l2 l3 : Int) (h : zH) : zO := if 0 ≤ l0 then (if 0 ≤ gt h 12 l0 26 then (if 0 ≤ gt h 12 l0 25 ∧ gt h 12 l0 25 < 150 then (if 0 ≤ gt (pt h 68 (gt h 12 l0 26) (gt h 12 l0 25) l1) 12 l0 27 then (if 0 ≤ gt (pt h 68 (gt h 12 l0 26) (gt h 12 l0 25) l1) 12 l0 25 ∧ gt (pt h 68 (gt h 12 l0 26) (gt h 12 l0 25) l1) 12 l0 25 < 150 then (zl (pt (pt h 68 (gt h 12 l0 26) (gt h 12 l0 25) l1) 69 (gt (pt h 68 (gt h 12 l0 26) (gt h 12 l0 25) l1) 12 l0 27) (gt (pt h 68 (gt h 12 l0 26) (gt h 12 l0 25) l1) 12 l0 25) l2) (fun k6 => if 0 ≤ gt k6 12 l0 28 then (if 0 ≤ gt k6 12 l0 25 ∧ gt k6 12 l0 25 < 150 then (if 0 ≤ gt (pt k6 70 (gt k6 12 l0 28) (gt k6 12 l0 25) l3) 12 l0 29 then (if 0 ≤ gt (pt k6 70 (gt k6 12 l0 28) (gt k6 12 l0 25) l3) 12 l0 25 ∧ gt (pt k6 70 (gt k6 12 l0 28) (gt k6 12 l0 25) l3) 12 l0 25 < 150 then (zl (pt (pt k6 70 (gt k6 12 l0 28) (gt k6 12 l0 25) l3) 71 (gt (pt k6 70 (gt k6 12 l0 28) (gt k6 12 l0 25) l3) 12 l0 29) (gt (pt k6 70 (gt k6 12 l0 28) (gt k6 12 l0 25) l3) 12 l0 25) 0) (fun k11 => if 0 ≤ gt k11 12 l0 30 then (if 0 ≤ gt k11 12 l0 25 ∧ gt k11 12 l0 25 < 150 then (if 0 ≤ gt (pt k11 72 (gt k11 12 l0 30) (gt k11 12 l0 25) (-1)) 12 l0 31 then (if 0 ≤ gt (pt k11 72 (gt k11 12 l0 30) (gt k11 12 l0 25) (-1)) 12 l0 25 ∧ gt (pt k11 72 (gt k11 12 l0 30) (gt k11 12 l0 25) (-1)) 12 l0 25 < 150 then (zl (pt (pt k11 72 (gt k11 12 l0 30) (gt k11 12 l0 25) (-1)) 73 (gt (pt k11 72 (gt k11 12 l0 30) (gt k11 12 l0 25) (-1)) 12 l0 31) (gt (pt k11 72 (gt k11 12 l0 30) (gt k11 12 l0 25) (-1)) 12 l0 25) (-1)) (fun k16 => some (0, (pt k16 12 l0 25 (wI ((gt k16 12 l0 25) + 1)))))) else none) else none) else none) else none)) else none) else none) else none) else none)) else none) else none) else none) else none) else none
set_option maxHeartbeats 1000000 in
theorem x_X12_begin_0 {l0 l1 l2 l3 : Int} {h : zH} {r : Int} {h' : zH} (hF : F_X12_begin_0 l0 l1 l2 l3 h = some (r, h')) : Ex 0 M_X12_begin 0 [some (vr 12 l0), some (vi l1), some (vi l2), some (vi l3)] [] h (fun r1 h1 => r1 = none ∧ h1 = h') := by
  unfold F_X12_begin_0 at hF
  refine ex_aload_n (q := 1) dX12_begin_0 rfl rfl ?_
  obtain ⟨g1, hF⟩ := zg hF
  refine ex_get (q := 4) (v := vr 68 (gt h 12 l0 26)) 26 dX12_begin_1 rfl fl_X12_66 g1 rfl rfl ?_
  refine ex_aload_n (q := 5) dX12_begin_4 rfl rfl ?_
  refine ex_get (q := 8) (v := vi (gt h 12 l0 25)) 25 dX12_begin_5 rfl fl_X12_217 g1 rfl rfl ?_
  refine ex_iload_n (q := 9) dX12_begin_8 rfl rfl ?_
  obtain ⟨g2, hF⟩ := zg hF
  obtain ⟨g3, hF⟩ := zg hF
  refine ex_iast (q := 10) dX12_begin_9 rfl kd_68 g2 g3.1 g3.2 ?_
  refine ex_aload_n (q := 11) dX12_begin_10 rfl rfl ?_
  refine ex_get (q := 14) (v := vr 69 (gt (pt h 68 (gt h 12 l0 26) (gt h 12 l0 25) l1) 12 l0 27)) 27 dX12_begin_11 rfl fl_X12_69 g1 rfl rfl ?_
  refine ex_aload_n (q := 15) dX12_begin_14 rfl rfl ?_
  refine ex_get (q := 18) (v := vi (gt (pt h 68 (gt h 12 l0 26) (gt h 12 l0 25) l1) 12 l0 25)) 25 dX12_begin_15 rfl fl_X12_217 g1 rfl rfl ?_
  refine ex_iload_n (q := 19) dX12_begin_18 rfl rfl ?_
  obtain ⟨g4, hF⟩ := zg hF
  obtain ⟨g5, hF⟩ := zg hF
  refine ex_iast (q := 20) dX12_begin_19 rfl kd_69 g4 g5.1 g5.2 ?_
  have hF := zl_e hF
  generalize pt (pt h 68 (gt h 12 l0 26) (gt h 12 l0 25) l1) 69 (gt (pt h 68 (gt h 12 l0 26) (gt h 12 l0 25) l1) 12 l0 27) (gt (pt h 68 (gt h 12 l0 26) (gt h 12 l0 25) l1) 12 l0 25) l2 = k6 at hF ⊢
  refine ex_aload_n (q := 21) dX12_begin_20 rfl rfl ?_
  refine ex_get (q := 24) (v := vr 70 (gt k6 12 l0 28)) 28 dX12_begin_21 rfl fl_X12_72 g1 rfl rfl ?_
  refine ex_aload_n (q := 25) dX12_begin_24 rfl rfl ?_
  refine ex_get (q := 28) (v := vi (gt k6 12 l0 25)) 25 dX12_begin_25 rfl fl_X12_217 g1 rfl rfl ?_
  refine ex_iload_n (q := 29) dX12_begin_28 rfl rfl ?_
  obtain ⟨g7, hF⟩ := zg hF
  obtain ⟨g8, hF⟩ := zg hF
  refine ex_iast (q := 30) dX12_begin_29 rfl kd_70 g7 g8.1 g8.2 ?_
  refine ex_aload_n (q := 31) dX12_begin_30 rfl rfl ?_
  refine ex_get (q := 34) (v := vr 71 (gt (pt k6 70 (gt k6 12 l0 28) (gt k6 12 l0 25) l3) 12 l0 29)) 29 dX12_begin_31 rfl fl_X12_75 g1 rfl rfl ?_
  refine ex_aload_n (q := 35) dX12_begin_34 rfl rfl ?_
  refine ex_get (q := 38) (v := vi (gt (pt k6 70 (gt k6 12 l0 28) (gt k6 12 l0 25) l3) 12 l0 25)) 25 dX12_begin_35 rfl fl_X12_217 g1 rfl rfl ?_
  refine ex_iconst (q := 39) dX12_begin_38 rfl ⟨by decide, by decide⟩ ?_
  obtain ⟨g9, hF⟩ := zg hF
  obtain ⟨g10, hF⟩ := zg hF
  refine ex_iast (q := 40) dX12_begin_39 rfl kd_71 g9 g10.1 g10.2 ?_
  have hF := zl_e hF
  generalize pt (pt k6 70 (gt k6 12 l0 28) (gt k6 12 l0 25) l3) 71 (gt (pt k6 70 (gt k6 12 l0 28) (gt k6 12 l0 25) l3) 12 l0 29) (gt (pt k6 70 (gt k6 12 l0 28) (gt k6 12 l0 25) l3) 12 l0 25) 0 = k11 at hF ⊢
  refine ex_aload_n (q := 41) dX12_begin_40 rfl rfl ?_
  refine ex_get (q := 44) (v := vr 72 (gt k11 12 l0 30)) 30 dX12_begin_41 rfl fl_X12_78 g1 rfl rfl ?_
  refine ex_aload_n (q := 45) dX12_begin_44 rfl rfl ?_
  refine ex_get (q := 48) (v := vi (gt k11 12 l0 25)) 25 dX12_begin_45 rfl fl_X12_217 g1 rfl rfl ?_
  refine ex_iconst (q := 49) dX12_begin_48 rfl ⟨by decide, by decide⟩ ?_
  obtain ⟨g12, hF⟩ := zg hF
  obtain ⟨g13, hF⟩ := zg hF
  refine ex_iast (q := 50) dX12_begin_49 rfl kd_72 g12 g13.1 g13.2 ?_
  refine ex_aload_n (q := 51) dX12_begin_50 rfl rfl ?_
  refine ex_get (q := 54) (v := vr 73 (gt (pt k11 72 (gt k11 12 l0 30) (gt k11 12 l0 25) (-1)) 12 l0 31)) 31 dX12_begin_51 rfl fl_X12_81 g1 rfl rfl ?_
  refine ex_aload_n (q := 55) dX12_begin_54 rfl rfl ?_
  refine ex_get (q := 58) (v := vi (gt (pt k11 72 (gt k11 12 l0 30) (gt k11 12 l0 25) (-1)) 12 l0 25)) 25 dX12_begin_55 rfl fl_X12_217 g1 rfl rfl ?_
  refine ex_iconst (q := 59) dX12_begin_58 rfl ⟨by decide, by decide⟩ ?_
  obtain ⟨g14, hF⟩ := zg hF
  obtain ⟨g15, hF⟩ := zg hF
  refine ex_iast (q := 60) dX12_begin_59 rfl kd_73 g14 g15.1 g15.2 ?_
  have hF := zl_e hF
  generalize pt (pt k11 72 (gt k11 12 l0 30) (gt k11 12 l0 25) (-1)) 73 (gt (pt k11 72 (gt k11 12 l0 30) (gt k11 12 l0 25) (-1)) 12 l0 31) (gt (pt k11 72 (gt k11 12 l0 30) (gt k11 12 l0 25) (-1)) 12 l0 25) (-1) = k16 at hF ⊢
  refine ex_aload_n (q := 61) dX12_begin_60 rfl rfl ?_
  refine ex_dup (q := 62) dX12_begin_61 rfl (fun _ z => by cases z) ?_
  refine ex_get (q := 65) (v := vi (gt k16 12 l0 25)) 25 dX12_begin_62 rfl fl_X12_217 g1 rfl rfl ?_
  refine ex_iconst (q := 66) dX12_begin_65 rfl ⟨by decide, by decide⟩ ?_
  refine ex_iadd (q := 67) dX12_begin_66 rfl ?_
  refine ex_put (q := 70) 25 dX12_begin_67 rfl fl_X12_217 (by decide) g1 rfl rfl (fun z => by cases z) ?_
  obtain ⟨rfl, rfl⟩ := zr hF
  exact ex_ret none rfl ⟨dX12_begin_70, rfl⟩ ⟨rfl, rfl⟩
def F_X12_begin (l0 l1 l2 l3 : Int) (h : zH) : zO := F_X12_begin_0 l0 l1 l2 l3 h
theorem run_X12_begin {l0 l1 l2 l3 : Int} {h : zH} {r : Int} {h' : zH} (hF : F_X12_begin l0 l1 l2 l3 h = some (r, h')) : Run 0 yX12_begin cX12_begin 4 none [vr 12 l0, vi l1, vi l2, vi l3] h none h' := run_of (M := M_X12_begin) (by decide) rfl (fun z => by cases z) (Nat.le_of_ble_eq_true rfl) (x_X12_begin_0 hF)
abbrev M_X12_goTo : zM := (RX12, (cX12_goTo, (2, (none, false))))
def F_X12_goTo_0 (l0 l1 : Int) (h : zH) : zO := if 0 ≤ l0 then (if 0 ≤ gt h 12 l0 30 then (if 0 ≤ gt h 12 l0 67 ∧ gt h 12 l0 67 < 150 then (some (0, (pt h 72 (gt h 12 l0 30) (gt h 12 l0 67) l1))) else none) else none) else none
set_option maxHeartbeats 1000000 in
theorem x_X12_goTo_0 {l0 l1 : Int} {h : zH} {r : Int} {h' : zH} (hF : F_X12_goTo_0 l0 l1 h = some (r, h')) : Ex 0 M_X12_goTo 0 [some (vr 12 l0), some (vi l1)] [] h (fun r1 h1 => r1 = none ∧ h1 = h') := by
  unfold F_X12_goTo_0 at hF
  refine ex_aload_n (q := 1) dX12_goTo_0 rfl rfl ?_
  obtain ⟨g1, hF⟩ := zg hF
  refine ex_get (q := 4) (v := vr 72 (gt h 12 l0 30)) 30 dX12_goTo_1 rfl fl_X12_78 g1 rfl rfl ?_
  refine ex_aload_n (q := 5) dX12_goTo_4 rfl rfl ?_
  refine ex_get (q := 8) (v := vi (gt h 12 l0 67)) 67 dX12_goTo_5 rfl fl_X12_220 g1 rfl rfl ?_
  refine ex_iload_n (q := 9) dX12_goTo_8 rfl rfl ?_
  obtain ⟨g2, hF⟩ := zg hF
  obtain ⟨g3, hF⟩ := zg hF
  refine ex_iast (q := 10) dX12_goTo_9 rfl kd_72 g2 g3.1 g3.2 ?_
  obtain ⟨rfl, rfl⟩ := zr hF
  exact ex_ret none rfl ⟨dX12_goTo_10, rfl⟩ ⟨rfl, rfl⟩
def F_X12_goTo (l0 l1 : Int) (h : zH) : zO := F_X12_goTo_0 l0 l1 h
theorem run_X12_goTo {l0 l1 : Int} {h : zH} {r : Int} {h' : zH} (hF : F_X12_goTo l0 l1 h = some (r, h')) : Run 0 yX12_goTo cX12_goTo 2 none [vr 12 l0, vi l1] h none h' := run_of (M := M_X12_goTo) (by decide) rfl (fun z => by cases z) (Nat.le_of_ble_eq_true rfl) (x_X12_goTo_0 hF)
abbrev M_X12_beginScope : zM := (RX12, (cX12_beginScope, (2, (none, false))))
def F_X12_beginScope_0 (l0 l1 : Int) (h : zH) : zO := if 0 ≤ l0 then (zb (F_X12_begin l0 12 l1 (gt h 12 l0 44) h) (fun r2 h2 => some (0, (pt h2 12 l0 44 (wI ((gt h2 12 l0 44) + 1)))))) else none
set_option maxHeartbeats 1000000 in
theorem x_X12_beginScope_0 {l0 l1 : Int} {h : zH} {r : Int} {h' : zH} (hF : F_X12_beginScope_0 l0 l1 h = some (r, h')) : Ex 1 M_X12_beginScope 0 [some (vr 12 l0), some (vi l1)] [] h (fun r1 h1 => r1 = none ∧ h1 = h') := by
  unfold F_X12_beginScope_0 at hF
  refine ex_aload_n (q := 1) dX12_beginScope_0 rfl rfl ?_
  refine ex_bipush (q := 3) dX12_beginScope_1 rfl (by decide) ⟨by decide, by decide⟩ ?_
  refine ex_iload_n (q := 4) dX12_beginScope_3 rfl rfl ?_
  refine ex_aload_n (q := 5) dX12_beginScope_4 rfl rfl ?_
  obtain ⟨g1, hF⟩ := zg hF
  refine ex_get (q := 8) (v := vi (gt h 12 l0 44)) 44 dX12_beginScope_5 rfl fl_X12_236 g1 rfl rfl ?_
  obtain ⟨r2, h2, e2, hF⟩ := zb_some hF
  refine ex_callV (d' := 0) (q := 11) (as := [vi 12, vi l1, vi (gt h 12 l0 44)]) (st1 := []) (r := none) (h2 := h2) dX12_beginScope_8 rfl (run_X12_begin e2) mc_X12_begin mv_X12_begin ml_X12_226 (by decide) g1 rfl rfl (Nat.le_of_ble_eq_true rfl) rfl ?_
  refine ex_aload_n (q := 12) dX12_beginScope_11 rfl rfl ?_
  refine ex_dup (q := 13) dX12_beginScope_12 rfl (fun _ z => by cases z) ?_
  refine ex_get (q := 16) (v := vi (gt h2 12 l0 44)) 44 dX12_beginScope_13 rfl fl_X12_236 g1 rfl rfl ?_
  refine ex_iconst (q := 17) dX12_beginScope_16 rfl ⟨by decide, by decide⟩ ?_
  refine ex_iadd (q := 18) dX12_beginScope_17 rfl ?_
  refine ex_put (q := 21) 44 dX12_beginScope_18 rfl fl_X12_236 (by decide) g1 rfl rfl (fun z => by cases z) ?_
  obtain ⟨rfl, rfl⟩ := zr hF
  exact ex_ret none rfl ⟨dX12_beginScope_21, rfl⟩ ⟨rfl, rfl⟩
def F_X12_beginScope (l0 l1 : Int) (h : zH) : zO := F_X12_beginScope_0 l0 l1 h
theorem run_X12_beginScope {l0 l1 : Int} {h : zH} {r : Int} {h' : zH} (hF : F_X12_beginScope l0 l1 h = some (r, h')) : Run 1 yX12_beginScope cX12_beginScope 2 none [vr 12 l0, vi l1] h none h' := run_of (M := M_X12_beginScope) (by decide) rfl (fun z => by cases z) (Nat.le_of_ble_eq_true rfl) (x_X12_beginScope_0 hF)
abbrev M_X12_beginAct : zM := (RX12, (cX12_beginAct, (4, (none, false))))
def F_X12_beginAct_2b (ag2 : Int → Int → Int → Int → zH → zO) (l0 l1 l2 l3 : Int) (h : zH) : zO := if 8 ≤ l3 then (if 0 ≤ l0 then (if 0 ≤ gt h 12 l0 32 then (if 0 ≤ wI (8 * (gt h 12 l0 33)) ∧ wI (8 * (gt h 12 l0 33)) < 88 then (zl (pt (pt h 74 (gt h 12 l0 32) (wI (8 * (gt h 12 l0 33))) l2) 12 l0 33 (wI ((gt (pt h 74 (gt h 12 l0 32) (wI (8 * (gt h 12 l0 33))) l2) 12 l0 33) + 1))) (fun k5 => zb (F_X12_begin l0 17 (-1) l1 k5) (fun r6 h6 => if 0 ≤ gt h6 12 l0 29 then (if 0 ≤ wI ((gt h6 12 l0 25) - 1) ∧ wI ((gt h6 12 l0 25) - 1) < 150 then (zl (pt (pt h6 71 (gt h6 12 l0 29) (wI ((gt h6 12 l0 25) - 1)) 0) 12 l0 67 (wI ((gt (pt h6 71 (gt h6 12 l0 29) (wI ((gt h6 12 l0 25) - 1)) 0) 12 l0 25) - 1))) (fun k9 => zb (F_X12_goTo l0 0 k9) (fun r10 h10 => zb (F_X12_beginScope l0 (-1) h10) (fun r11 h11 => some (0, h11))))) else none) else none))) else none) else none) else none) else (if 0 ≤ l0 then (if 0 ≤ gt h 12 l0 32 then (if 0 ≤ wI ((wI (8 * (gt h 12 l0 33))) + l3) ∧ wI ((wI (8 * (gt h 12 l0 33))) + l3) < 88 then (ag2 l0 l1 l2 (wI (l3 + 1)) (pt h 74 (gt h 12 l0 32) (wI ((wI (8 * (gt h 12 l0 33))) + l3)) (-1))) else none) else none) else none)
set_option maxHeartbeats 1000000 in
theorem x_X12_beginAct_2b {ag2 : Int → Int → Int → Int → zH → zO} (hag2 : ∀ (l0 l1 l2 l3 : Int) (h : zH) (r : Int) (h' : zH), ag2 l0 l1 l2 l3 h = some (r, h') → Ex 2 M_X12_beginAct 2 [some (vr 12 l0), some (vi l1), some (vi l2), some (vi l3)] [] h (fun r1 h1 => r1 = none ∧ h1 = h')) {l0 l1 l2 l3 : Int} {h : zH} {r : Int} {h' : zH} (hF : F_X12_beginAct_2b ag2 l0 l1 l2 l3 h = some (r, h')) : Ex 2 M_X12_beginAct 2 [some (vr 12 l0), some (vi l1), some (vi l2), some (vi l3)] [] h (fun r1 h1 => r1 = none ∧ h1 = h') := by
  unfold F_X12_beginAct_2b at hF
  refine ex_iload_n (q := 3) dX12_beginAct_2 rfl rfl ?_
  refine ex_bipush (q := 5) dX12_beginAct_3 rfl (by decide) ⟨by decide, by decide⟩ ?_
  refine ex_icmp_ge (q := 8) (tgt := 29) dX12_beginAct_5 rfl (by decide) (fun c1 => ?_) (fun c1 => ?_)
  · have hF := ip c1 hF
    refine ex_aload_n (q := 30) dX12_beginAct_29 rfl rfl ?_
    obtain ⟨g2, hF⟩ := zg hF
    refine ex_get (q := 33) (v := vr 74 (gt h 12 l0 32)) 32 dX12_beginAct_30 rfl fl_X12_84 g2 rfl rfl ?_
    refine ex_bipush (q := 35) dX12_beginAct_33 rfl (by decide) ⟨by decide, by decide⟩ ?_
    refine ex_aload_n (q := 36) dX12_beginAct_35 rfl rfl ?_
    refine ex_get (q := 39) (v := vi (gt h 12 l0 33)) 33 dX12_beginAct_36 rfl fl_X12_223 g2 rfl rfl ?_
    refine ex_imul (q := 40) dX12_beginAct_39 rfl ?_
    refine ex_iload_n (q := 41) dX12_beginAct_40 rfl rfl ?_
    obtain ⟨g3, hF⟩ := zg hF
    obtain ⟨g4, hF⟩ := zg hF
    refine ex_iast (q := 42) dX12_beginAct_41 rfl kd_74 g3 g4.1 g4.2 ?_
    refine ex_aload_n (q := 43) dX12_beginAct_42 rfl rfl ?_
    refine ex_dup (q := 44) dX12_beginAct_43 rfl (fun _ z => by cases z) ?_
    refine ex_get (q := 47) (v := vi (gt (pt h 74 (gt h 12 l0 32) (wI (8 * (gt h 12 l0 33))) l2) 12 l0 33)) 33 dX12_beginAct_44 rfl fl_X12_223 g2 rfl rfl ?_
    refine ex_iconst (q := 48) dX12_beginAct_47 rfl ⟨by decide, by decide⟩ ?_
    refine ex_iadd (q := 49) dX12_beginAct_48 rfl ?_
    refine ex_put (q := 52) 33 dX12_beginAct_49 rfl fl_X12_223 (by decide) g2 rfl rfl (fun z => by cases z) ?_
    have hF := zl_e hF
    generalize pt (pt h 74 (gt h 12 l0 32) (wI (8 * (gt h 12 l0 33))) l2) 12 l0 33 (wI ((gt (pt h 74 (gt h 12 l0 32) (wI (8 * (gt h 12 l0 33))) l2) 12 l0 33) + 1)) = k5 at hF ⊢
    refine ex_aload_n (q := 53) dX12_beginAct_52 rfl rfl ?_
    refine ex_bipush (q := 55) dX12_beginAct_53 rfl (by decide) ⟨by decide, by decide⟩ ?_
    refine ex_iconst (q := 56) dX12_beginAct_55 rfl ⟨by decide, by decide⟩ ?_
    refine ex_iload_n (q := 57) dX12_beginAct_56 rfl rfl ?_
    obtain ⟨r6, h6, e6, hF⟩ := zb_some hF
    refine ex_callV (d' := 0) (q := 60) (as := [vi 17, vi (-1), vi l1]) (st1 := []) (r := none) (h2 := h6) dX12_beginAct_57 rfl (run_X12_begin e6) mc_X12_begin mv_X12_begin ml_X12_226 (by decide) g2 rfl rfl (Nat.le_of_ble_eq_true rfl) rfl ?_
    refine ex_aload_n (q := 61) dX12_beginAct_60 rfl rfl ?_
    refine ex_get (q := 64) (v := vr 71 (gt h6 12 l0 29)) 29 dX12_beginAct_61 rfl fl_X12_75 g2 rfl rfl ?_
    refine ex_aload_n (q := 65) dX12_beginAct_64 rfl rfl ?_
    refine ex_get (q := 68) (v := vi (gt h6 12 l0 25)) 25 dX12_beginAct_65 rfl fl_X12_217 g2 rfl rfl ?_
    refine ex_iconst (q := 69) dX12_beginAct_68 rfl ⟨by decide, by decide⟩ ?_
    refine ex_isub (q := 70) dX12_beginAct_69 rfl ?_
    refine ex_iconst (q := 71) dX12_beginAct_70 rfl ⟨by decide, by decide⟩ ?_
    obtain ⟨g7, hF⟩ := zg hF
    obtain ⟨g8, hF⟩ := zg hF
    refine ex_iast (q := 72) dX12_beginAct_71 rfl kd_71 g7 g8.1 g8.2 ?_
    refine ex_aload_n (q := 73) dX12_beginAct_72 rfl rfl ?_
    refine ex_aload_n (q := 74) dX12_beginAct_73 rfl rfl ?_
    refine ex_get (q := 77) (v := vi (gt (pt h6 71 (gt h6 12 l0 29) (wI ((gt h6 12 l0 25) - 1)) 0) 12 l0 25)) 25 dX12_beginAct_74 rfl fl_X12_217 g2 rfl rfl ?_
    refine ex_iconst (q := 78) dX12_beginAct_77 rfl ⟨by decide, by decide⟩ ?_
    refine ex_isub (q := 79) dX12_beginAct_78 rfl ?_
    refine ex_put (q := 82) 67 dX12_beginAct_79 rfl fl_X12_220 (by decide) g2 rfl rfl (fun z => by cases z) ?_
    have hF := zl_e hF
    generalize pt (pt h6 71 (gt h6 12 l0 29) (wI ((gt h6 12 l0 25) - 1)) 0) 12 l0 67 (wI ((gt (pt h6 71 (gt h6 12 l0 29) (wI ((gt h6 12 l0 25) - 1)) 0) 12 l0 25) - 1)) = k9 at hF ⊢
    refine ex_aload_n (q := 83) dX12_beginAct_82 rfl rfl ?_
    refine ex_iconst (q := 84) dX12_beginAct_83 rfl ⟨by decide, by decide⟩ ?_
    obtain ⟨r10, h10, e10, hF⟩ := zb_some hF
    refine ex_callV (d' := 0) (q := 87) (as := [vi 0]) (st1 := []) (r := none) (h2 := h10) dX12_beginAct_84 rfl (run_X12_goTo e10) mc_X12_goTo mv_X12_goTo ml_X12_230 (by decide) g2 rfl rfl (Nat.le_of_ble_eq_true rfl) rfl ?_
    refine ex_aload_n (q := 88) dX12_beginAct_87 rfl rfl ?_
    refine ex_iconst (q := 89) dX12_beginAct_88 rfl ⟨by decide, by decide⟩ ?_
    obtain ⟨r11, h11, e11, hF⟩ := zb_some hF
    refine ex_callV (d' := 1) (q := 92) (as := [vi (-1)]) (st1 := []) (r := none) (h2 := h11) dX12_beginAct_89 rfl (run_X12_beginScope e11) mc_X12_beginScope mv_X12_beginScope ml_X12_233 (by decide) g2 rfl rfl (Nat.le_of_ble_eq_true rfl) rfl ?_
    obtain ⟨rfl, rfl⟩ := zr hF
    exact ex_ret none rfl ⟨dX12_beginAct_92, rfl⟩ ⟨rfl, rfl⟩
  · have hF := im c1 hF
    refine ex_aload_n (q := 9) dX12_beginAct_8 rfl rfl ?_
    obtain ⟨g12, hF⟩ := zg hF
    refine ex_get (q := 12) (v := vr 74 (gt h 12 l0 32)) 32 dX12_beginAct_9 rfl fl_X12_84 g12 rfl rfl ?_
    refine ex_bipush (q := 14) dX12_beginAct_12 rfl (by decide) ⟨by decide, by decide⟩ ?_
    refine ex_aload_n (q := 15) dX12_beginAct_14 rfl rfl ?_
    refine ex_get (q := 18) (v := vi (gt h 12 l0 33)) 33 dX12_beginAct_15 rfl fl_X12_223 g12 rfl rfl ?_
    refine ex_imul (q := 19) dX12_beginAct_18 rfl ?_
    refine ex_iload_n (q := 20) dX12_beginAct_19 rfl rfl ?_
    refine ex_iadd (q := 21) dX12_beginAct_20 rfl ?_
    refine ex_iconst (q := 22) dX12_beginAct_21 rfl ⟨by decide, by decide⟩ ?_
    obtain ⟨g13, hF⟩ := zg hF
    obtain ⟨g14, hF⟩ := zg hF
    refine ex_iast (q := 23) dX12_beginAct_22 rfl kd_74 g13 g14.1 g14.2 ?_
    refine ex_iinc (q := 26) (lo' := [some (vr 12 l0), some (vi l1), some (vi l2), some (vi (wI (l3 + 1)))]) dX12_beginAct_23 rfl rfl (by decide) rfl rfl ?_
    refine ex_goto (q := 2) dX12_beginAct_26 (by decide) ?_
    exact ex_forget (lo' := [some (vr 12 l0), some (vi l1), some (vi l2), some (vi (wI (l3 + 1)))]) ⟨Or.inr rfl, Or.inr rfl, Or.inr rfl, Or.inr rfl, trivial⟩ (hag2 _ _ _ _ _ _ _ hF)
def F_X12_beginAct_2 : Nat → Int → Int → Int → Int → zH → zO
  | 0, _, _, _, _, _ => none
  | n + 1, l0, l1, l2, l3, h => F_X12_beginAct_2b (F_X12_beginAct_2 n) l0 l1 l2 l3 h
theorem x_X12_beginAct_2 : ∀ (n : Nat) (l0 l1 l2 l3 : Int) (h : zH) (r : Int) (h' : zH), F_X12_beginAct_2 n l0 l1 l2 l3 h = some (r, h') → Ex 2 M_X12_beginAct 2 [some (vr 12 l0), some (vi l1), some (vi l2), some (vi l3)] [] h (fun r1 h1 => r1 = none ∧ h1 = h')
  | 0, _, _, _, _, _, _, _, hF => by cases hF
  | n + 1, _, _, _, _, _, _, _, hF => x_X12_beginAct_2b (x_X12_beginAct_2 n) hF
def F_X12_beginAct_0 (l0 l1 l2 : Int) (h : zH) : zO := F_X12_beginAct_2 zF l0 l1 l2 0 h
set_option maxHeartbeats 1000000 in
theorem x_X12_beginAct_0 {l0 l1 l2 : Int} {h : zH} {r : Int} {h' : zH} (hF : F_X12_beginAct_0 l0 l1 l2 h = some (r, h')) : Ex 2 M_X12_beginAct 0 [some (vr 12 l0), some (vi l1), some (vi l2), none] [] h (fun r1 h1 => r1 = none ∧ h1 = h') := by
  unfold F_X12_beginAct_0 at hF
  refine ex_iconst (q := 1) dX12_beginAct_0 rfl ⟨by decide, by decide⟩ ?_
  refine ex_istore_n (q := 2) (lo' := [some (vr 12 l0), some (vi l1), some (vi l2), some (vi 0)]) dX12_beginAct_1 rfl (by decide) rfl rfl ?_
  exact ex_forget (lo' := [some (vr 12 l0), some (vi l1), some (vi l2), some (vi 0)]) ⟨Or.inr rfl, Or.inr rfl, Or.inr rfl, Or.inr rfl, trivial⟩ (x_X12_beginAct_2 _ _ _ _ _ _ _ _ hF)
def F_X12_beginAct (l0 l1 l2 : Int) (h : zH) : zO := F_X12_beginAct_0 l0 l1 l2 h
theorem run_X12_beginAct {l0 l1 l2 : Int} {h : zH} {r : Int} {h' : zH} (hF : F_X12_beginAct l0 l1 l2 h = some (r, h')) : Run 2 yX12_beginAct cX12_beginAct 4 none [vr 12 l0, vi l1, vi l2] h none h' := run_of (M := M_X12_beginAct) (by decide) rfl (fun z => by cases z) (Nat.le_of_ble_eq_true rfl) (x_X12_beginAct_0 hF)
abbrev M_X12_lastOf : zM := (RX12, (cX12_lastOf, (4, ((some .int), false))))
def F_X12_lastOf_60 (ag4 : Int → Int → Int → Int → zH → zO) (l0 l1 l3 : Int) (h : zH) : zO := ag4 l0 l1 l3 (wI (l3 + 1)) h
set_option maxHeartbeats 1000000 in
theorem x_X12_lastOf_60 {ag4 : Int → Int → Int → Int → zH → zO} (hag4 : ∀ (l0 l1 l2 l3 : Int) (h : zH) (r : Int) (h' : zH), ag4 l0 l1 l2 l3 h = some (r, h') → Ex 0 M_X12_lastOf 4 [some (vr 12 l0), some (vi l1), some (vi l2), some (vi l3)] [] h (fun r1 h1 => r1 = some (vi r) ∧ h1 = h')) {l0 l1 l3 : Int} {h : zH} {r : Int} {h' : zH} (hF : F_X12_lastOf_60 ag4 l0 l1 l3 h = some (r, h')) : Ex 0 M_X12_lastOf 60 [some (vr 12 l0), some (vi l1), none, some (vi l3)] [] h (fun r1 h1 => r1 = some (vi r) ∧ h1 = h') := by
  unfold F_X12_lastOf_60 at hF
  refine ex_iload_n (q := 61) dX12_lastOf_60 rfl rfl ?_
  refine ex_istore_n (q := 62) (lo' := [some (vr 12 l0), some (vi l1), some (vi l3), some (vi l3)]) dX12_lastOf_61 rfl (by decide) rfl rfl ?_
  refine ex_iinc (q := 65) (lo' := [some (vr 12 l0), some (vi l1), some (vi l3), some (vi (wI (l3 + 1)))]) dX12_lastOf_62 rfl rfl (by decide) rfl rfl ?_
  refine ex_goto (q := 4) dX12_lastOf_65 (by decide) ?_
  exact ex_forget (lo' := [some (vr 12 l0), some (vi l1), some (vi l3), some (vi (wI (l3 + 1)))]) ⟨Or.inr rfl, Or.inr rfl, Or.inr rfl, Or.inr rfl, trivial⟩ (hag4 _ _ _ _ _ _ _ hF)
def F_X12_lastOf_4b (ag4 : Int → Int → Int → Int → zH → zO) (l0 l1 l2 l3 : Int) (h : zH) : zO := if 0 ≤ l0 then (if gt h 12 l0 34 ≤ l3 then (some (l2, h)) else (if 0 ≤ gt h 12 l0 40 then (if 0 ≤ l3 ∧ l3 < 180 then (if gt h 80 (gt h 12 l0 40) l3 = 0 then (ag4 l0 l1 l2 (wI (l3 + 1)) h) else (if 0 ≤ gt h 12 l0 36 then (if gt h 76 (gt h 12 l0 36) l3 = 1 then (ag4 l0 l1 l2 (wI (l3 + 1)) h) else (if 0 ≤ gt h 12 l0 38 then (if gt h 78 (gt h 12 l0 38) l3 ≠ l1 then (ag4 l0 l1 l2 (wI (l3 + 1)) h) else (if l2 < 0 then (F_X12_lastOf_60 ag4 l0 l1 l3 h) else (if 0 ≤ gt h 12 l0 39 then (if 0 ≤ l2 ∧ l2 < 180 then (if gt h 79 (gt h 12 l0 39) l3 ≤ gt h 79 (gt h 12 l0 39) l2 then (ag4 l0 l1 l2 (wI (l3 + 1)) h) else (F_X12_lastOf_60 ag4 l0 l1 l3 h)) else none) else none))) else none)) else none)) else none) else none)) else none
set_option maxHeartbeats 1000000 in
theorem x_X12_lastOf_4b {ag4 : Int → Int → Int → Int → zH → zO} (hag4 : ∀ (l0 l1 l2 l3 : Int) (h : zH) (r : Int) (h' : zH), ag4 l0 l1 l2 l3 h = some (r, h') → Ex 0 M_X12_lastOf 4 [some (vr 12 l0), some (vi l1), some (vi l2), some (vi l3)] [] h (fun r1 h1 => r1 = some (vi r) ∧ h1 = h')) {l0 l1 l2 l3 : Int} {h : zH} {r : Int} {h' : zH} (hF : F_X12_lastOf_4b ag4 l0 l1 l2 l3 h = some (r, h')) : Ex 0 M_X12_lastOf 4 [some (vr 12 l0), some (vi l1), some (vi l2), some (vi l3)] [] h (fun r1 h1 => r1 = some (vi r) ∧ h1 = h') := by
  unfold F_X12_lastOf_4b at hF
  refine ex_iload_n (q := 5) dX12_lastOf_4 rfl rfl ?_
  refine ex_aload_n (q := 6) dX12_lastOf_5 rfl rfl ?_
  obtain ⟨g1, hF⟩ := zg hF
  refine ex_get (q := 9) (v := vi (gt h 12 l0 34)) 34 dX12_lastOf_6 rfl fl_X12_258 g1 rfl rfl ?_
  refine ex_icmp_ge (q := 12) (tgt := 68) dX12_lastOf_9 rfl (by decide) (fun c2 => ?_) (fun c2 => ?_)
  · have hF := ip c2 hF
    refine ex_iload_n (q := 69) dX12_lastOf_68 rfl rfl ?_
    obtain ⟨rfl, rfl⟩ := zr hF
    exact ex_ret (some (vi l2)) rfl ⟨dX12_lastOf_69, Or.inl rfl⟩ ⟨rfl, rfl⟩
  · have hF := im c2 hF
    refine ex_aload_n (q := 13) dX12_lastOf_12 rfl rfl ?_
    refine ex_get (q := 16) (v := vr 80 (gt h 12 l0 40)) 40 dX12_lastOf_13 rfl fl_X12_102 g1 rfl rfl ?_
    refine ex_iload_n (q := 17) dX12_lastOf_16 rfl rfl ?_
    obtain ⟨g3, hF⟩ := zg hF
    obtain ⟨g4, hF⟩ := zg hF
    refine ex_bald (q := 18) dX12_lastOf_17 rfl kd_80 g3 g4.1 g4.2 ?_
    refine ex_if_eq (q := 21) (tgt := 62) dX12_lastOf_18 rfl (by decide) (fun c5 => ?_) (fun c5 => ?_)
    · have hF := ip c5 hF
      refine ex_iinc (q := 65) (lo' := [some (vr 12 l0), some (vi l1), some (vi l2), some (vi (wI (l3 + 1)))]) dX12_lastOf_62 rfl rfl (by decide) rfl rfl ?_
      refine ex_goto (q := 4) dX12_lastOf_65 (by decide) ?_
      exact ex_forget (lo' := [some (vr 12 l0), some (vi l1), some (vi l2), some (vi (wI (l3 + 1)))]) ⟨Or.inr rfl, Or.inr rfl, Or.inr rfl, Or.inr rfl, trivial⟩ (hag4 _ _ _ _ _ _ _ hF)
    · have hF := im c5 hF
      refine ex_aload_n (q := 22) dX12_lastOf_21 rfl rfl ?_
      refine ex_get (q := 25) (v := vr 76 (gt h 12 l0 36)) 36 dX12_lastOf_22 rfl fl_X12_90 g1 rfl rfl ?_
      refine ex_iload_n (q := 26) dX12_lastOf_25 rfl rfl ?_
      obtain ⟨g6, hF⟩ := zg hF
      refine ex_iald (q := 27) dX12_lastOf_26 rfl kd_76 g6 g4.1 g4.2 ?_
      refine ex_iconst (q := 28) dX12_lastOf_27 rfl ⟨by decide, by decide⟩ ?_
      refine ex_icmp_eq (q := 31) (tgt := 62) dX12_lastOf_28 rfl (by decide) (fun c7 => ?_) (fun c7 => ?_)
      · have hF := ip c7 hF
        refine ex_iinc (q := 65) (lo' := [some (vr 12 l0), some (vi l1), some (vi l2), some (vi (wI (l3 + 1)))]) dX12_lastOf_62 rfl rfl (by decide) rfl rfl ?_
        refine ex_goto (q := 4) dX12_lastOf_65 (by decide) ?_
        exact ex_forget (lo' := [some (vr 12 l0), some (vi l1), some (vi l2), some (vi (wI (l3 + 1)))]) ⟨Or.inr rfl, Or.inr rfl, Or.inr rfl, Or.inr rfl, trivial⟩ (hag4 _ _ _ _ _ _ _ hF)
      · have hF := im c7 hF
        refine ex_aload_n (q := 32) dX12_lastOf_31 rfl rfl ?_
        refine ex_get (q := 35) (v := vr 78 (gt h 12 l0 38)) 38 dX12_lastOf_32 rfl fl_X12_96 g1 rfl rfl ?_
        refine ex_iload_n (q := 36) dX12_lastOf_35 rfl rfl ?_
        obtain ⟨g8, hF⟩ := zg hF
        refine ex_iald (q := 37) dX12_lastOf_36 rfl kd_78 g8 g4.1 g4.2 ?_
        refine ex_iload_n (q := 38) dX12_lastOf_37 rfl rfl ?_
        refine ex_icmp_ne (q := 41) (tgt := 62) dX12_lastOf_38 rfl (by decide) (fun c9 => ?_) (fun c9 => ?_)
        · have hF := ip c9 hF
          refine ex_iinc (q := 65) (lo' := [some (vr 12 l0), some (vi l1), some (vi l2), some (vi (wI (l3 + 1)))]) dX12_lastOf_62 rfl rfl (by decide) rfl rfl ?_
          refine ex_goto (q := 4) dX12_lastOf_65 (by decide) ?_
          exact ex_forget (lo' := [some (vr 12 l0), some (vi l1), some (vi l2), some (vi (wI (l3 + 1)))]) ⟨Or.inr rfl, Or.inr rfl, Or.inr rfl, Or.inr rfl, trivial⟩ (hag4 _ _ _ _ _ _ _ hF)
        · have hF := im c9 hF
          refine ex_iload_n (q := 42) dX12_lastOf_41 rfl rfl ?_
          refine ex_if_lt (q := 45) (tgt := 60) dX12_lastOf_42 rfl (by decide) (fun c10 => ?_) (fun c10 => ?_)
          · have hF := ip c10 hF
            exact ex_forget (lo' := [some (vr 12 l0), some (vi l1), none, some (vi l3)]) ⟨Or.inr rfl, Or.inr rfl, Or.inl rfl, Or.inr rfl, trivial⟩ (x_X12_lastOf_60 hag4 hF)
          · have hF := im c10 hF
            refine ex_aload_n (q := 46) dX12_lastOf_45 rfl rfl ?_
            refine ex_get (q := 49) (v := vr 79 (gt h 12 l0 39)) 39 dX12_lastOf_46 rfl fl_X12_99 g1 rfl rfl ?_
            refine ex_iload_n (q := 50) dX12_lastOf_49 rfl rfl ?_
            obtain ⟨g11, hF⟩ := zg hF
            refine ex_iald (q := 51) dX12_lastOf_50 rfl kd_79 g11 g4.1 g4.2 ?_
            refine ex_aload_n (q := 52) dX12_lastOf_51 rfl rfl ?_
            refine ex_get (q := 55) (v := vr 79 (gt h 12 l0 39)) 39 dX12_lastOf_52 rfl fl_X12_99 g1 rfl rfl ?_
            refine ex_iload_n (q := 56) dX12_lastOf_55 rfl rfl ?_
            obtain ⟨g12, hF⟩ := zg hF
            refine ex_iald (q := 57) dX12_lastOf_56 rfl kd_79 g11 g12.1 g12.2 ?_
            refine ex_icmp_le (q := 60) (tgt := 62) dX12_lastOf_57 rfl (by decide) (fun c13 => ?_) (fun c13 => ?_)
            · have hF := ip c13 hF
              refine ex_iinc (q := 65) (lo' := [some (vr 12 l0), some (vi l1), some (vi l2), some (vi (wI (l3 + 1)))]) dX12_lastOf_62 rfl rfl (by decide) rfl rfl ?_
              refine ex_goto (q := 4) dX12_lastOf_65 (by decide) ?_
              exact ex_forget (lo' := [some (vr 12 l0), some (vi l1), some (vi l2), some (vi (wI (l3 + 1)))]) ⟨Or.inr rfl, Or.inr rfl, Or.inr rfl, Or.inr rfl, trivial⟩ (hag4 _ _ _ _ _ _ _ hF)
            · have hF := im c13 hF
              exact ex_forget (lo' := [some (vr 12 l0), some (vi l1), none, some (vi l3)]) ⟨Or.inr rfl, Or.inr rfl, Or.inl rfl, Or.inr rfl, trivial⟩ (x_X12_lastOf_60 hag4 hF)
def F_X12_lastOf_4 : Nat → Int → Int → Int → Int → zH → zO
  | 0, _, _, _, _, _ => none
  | n + 1, l0, l1, l2, l3, h => F_X12_lastOf_4b (F_X12_lastOf_4 n) l0 l1 l2 l3 h
theorem x_X12_lastOf_4 : ∀ (n : Nat) (l0 l1 l2 l3 : Int) (h : zH) (r : Int) (h' : zH), F_X12_lastOf_4 n l0 l1 l2 l3 h = some (r, h') → Ex 0 M_X12_lastOf 4 [some (vr 12 l0), some (vi l1), some (vi l2), some (vi l3)] [] h (fun r1 h1 => r1 = some (vi r) ∧ h1 = h')
  | 0, _, _, _, _, _, _, _, hF => by cases hF
  | n + 1, _, _, _, _, _, _, _, hF => x_X12_lastOf_4b (x_X12_lastOf_4 n) hF
def F_X12_lastOf_0 (l0 l1 : Int) (h : zH) : zO := F_X12_lastOf_4 zF l0 l1 (-1) 0 h
set_option maxHeartbeats 1000000 in
theorem x_X12_lastOf_0 {l0 l1 : Int} {h : zH} {r : Int} {h' : zH} (hF : F_X12_lastOf_0 l0 l1 h = some (r, h')) : Ex 0 M_X12_lastOf 0 [some (vr 12 l0), some (vi l1), none, none] [] h (fun r1 h1 => r1 = some (vi r) ∧ h1 = h') := by
  unfold F_X12_lastOf_0 at hF
  refine ex_iconst (q := 1) dX12_lastOf_0 rfl ⟨by decide, by decide⟩ ?_
  refine ex_istore_n (q := 2) (lo' := [some (vr 12 l0), some (vi l1), some (vi (-1)), none]) dX12_lastOf_1 rfl (by decide) rfl rfl ?_
  refine ex_iconst (q := 3) dX12_lastOf_2 rfl ⟨by decide, by decide⟩ ?_
  refine ex_istore_n (q := 4) (lo' := [some (vr 12 l0), some (vi l1), some (vi (-1)), some (vi 0)]) dX12_lastOf_3 rfl (by decide) rfl rfl ?_
  exact ex_forget (lo' := [some (vr 12 l0), some (vi l1), some (vi (-1)), some (vi 0)]) ⟨Or.inr rfl, Or.inr rfl, Or.inr rfl, Or.inr rfl, trivial⟩ (x_X12_lastOf_4 _ _ _ _ _ _ _ _ hF)
def F_X12_lastOf (l0 l1 : Int) (h : zH) : zO := F_X12_lastOf_0 l0 l1 h
theorem run_X12_lastOf {l0 l1 : Int} {h : zH} {r : Int} {h' : zH} (hF : F_X12_lastOf l0 l1 h = some (r, h')) : Run 0 yX12_lastOf cX12_lastOf 4 (some .int) [vr 12 l0, vi l1] h (some (vi r)) h' := run_of (M := M_X12_lastOf) (by decide) rfl (fun z => by cases z) (Nat.le_of_ble_eq_true rfl) (x_X12_lastOf_0 hF)
abbrev M_X12_meets : zM := (RX12, (cX12_meets, (7, ((some .boolean), false))))
def F_X12_meets_86 (ag5 : Int → Int → Int → Int → Int → zH → zO) (l0 l1 l2 l3 l4 l6 : Int) (h : zH) : zO := if 0 ≤ l0 then (if 0 ≤ gt h 12 l0 7 then (if 0 ≤ l4 ∧ l4 < 30 then (if 0 ≤ l3 ∧ l3 < 30 then (if 0 ≤ gt (pt h 54 (gt h 12 l0 7) l3 (gt h 54 (gt h 12 l0 7) l4)) 12 l0 8 then (zl (pt (pt h 54 (gt h 12 l0 7) l3 (gt h 54 (gt h 12 l0 7) l4)) 55 (gt (pt h 54 (gt h 12 l0 7) l3 (gt h 54 (gt h 12 l0 7) l4)) 12 l0 8) l3 (gt (pt h 54 (gt h 12 l0 7) l3 (gt h 54 (gt h 12 l0 7) l4)) 55 (gt (pt h 54 (gt h 12 l0 7) l3 (gt h 54 (gt h 12 l0 7) l4)) 12 l0 8) l4)) (fun k6 => if 0 ≤ gt k6 12 l0 9 then (if 0 ≤ gt (pt k6 56 (gt k6 12 l0 9) l3 (gt k6 56 (gt k6 12 l0 9) l4)) 12 l0 10 then (zl (pt (pt k6 56 (gt k6 12 l0 9) l3 (gt k6 56 (gt k6 12 l0 9) l4)) 57 (gt (pt k6 56 (gt k6 12 l0 9) l3 (gt k6 56 (gt k6 12 l0 9) l4)) 12 l0 10) l3 l6) (fun k9 => ag5 l0 l1 l2 (wI (l3 + 1)) (wI (l4 + 1)) k9)) else none) else none)) else none) else none) else none) else none) else none
set_option maxHeartbeats 1000000 in
theorem x_X12_meets_86 {ag5 : Int → Int → Int → Int → Int → zH → zO} (hag5 : ∀ (l0 l1 l2 l3 l4 : Int) (h : zH) (r : Int) (h' : zH), ag5 l0 l1 l2 l3 l4 h = some (r, h') → Ex 0 M_X12_meets 5 [some (vr 12 l0), some (vi l1), some (vi l2), some (vi l3), some (vi l4), none, none] [] h (fun r1 h1 => r1 = some (vi r) ∧ h1 = h')) {l0 l1 l2 l3 l4 l6 : Int} {h : zH} {r : Int} {h' : zH} (hF : F_X12_meets_86 ag5 l0 l1 l2 l3 l4 l6 h = some (r, h')) : Ex 0 M_X12_meets 86 [some (vr 12 l0), some (vi l1), some (vi l2), some (vi l3), some (vi l4), none, some (vi l6)] [] h (fun r1 h1 => r1 = some (vi r) ∧ h1 = h') := by
  unfold F_X12_meets_86 at hF
  refine ex_aload_n (q := 87) dX12_meets_86 rfl rfl ?_
  obtain ⟨g1, hF⟩ := zg hF
  refine ex_get (q := 90) (v := vr 54 (gt h 12 l0 7)) 7 dX12_meets_87 rfl fl_X12_22 g1 rfl rfl ?_
  refine ex_iload_n (q := 91) dX12_meets_90 rfl rfl ?_
  refine ex_aload_n (q := 92) dX12_meets_91 rfl rfl ?_
  refine ex_get (q := 95) (v := vr 54 (gt h 12 l0 7)) 7 dX12_meets_92 rfl fl_X12_22 g1 rfl rfl ?_
  refine ex_iload (q := 97) dX12_meets_95 rfl rfl ?_
  obtain ⟨g2, hF⟩ := zg hF
  obtain ⟨g3, hF⟩ := zg hF
  refine ex_iald (q := 98) dX12_meets_97 rfl kd_54 g2 g3.1 g3.2 ?_
  obtain ⟨g4, hF⟩ := zg hF
  refine ex_iast (q := 99) dX12_meets_98 rfl kd_54 g2 g4.1 g4.2 ?_
  refine ex_aload_n (q := 100) dX12_meets_99 rfl rfl ?_
  refine ex_get (q := 103) (v := vr 55 (gt (pt h 54 (gt h 12 l0 7) l3 (gt h 54 (gt h 12 l0 7) l4)) 12 l0 8)) 8 dX12_meets_100 rfl fl_X12_25 g1 rfl rfl ?_
  refine ex_iload_n (q := 104) dX12_meets_103 rfl rfl ?_
  refine ex_aload_n (q := 105) dX12_meets_104 rfl rfl ?_
  refine ex_get (q := 108) (v := vr 55 (gt (pt h 54 (gt h 12 l0 7) l3 (gt h 54 (gt h 12 l0 7) l4)) 12 l0 8)) 8 dX12_meets_105 rfl fl_X12_25 g1 rfl rfl ?_
  refine ex_iload (q := 110) dX12_meets_108 rfl rfl ?_
  obtain ⟨g5, hF⟩ := zg hF
  refine ex_iald (q := 111) dX12_meets_110 rfl kd_55 g5 g3.1 g3.2 ?_
  refine ex_iast (q := 112) dX12_meets_111 rfl kd_55 g5 g4.1 g4.2 ?_
  have hF := zl_e hF
  generalize pt (pt h 54 (gt h 12 l0 7) l3 (gt h 54 (gt h 12 l0 7) l4)) 55 (gt (pt h 54 (gt h 12 l0 7) l3 (gt h 54 (gt h 12 l0 7) l4)) 12 l0 8) l3 (gt (pt h 54 (gt h 12 l0 7) l3 (gt h 54 (gt h 12 l0 7) l4)) 55 (gt (pt h 54 (gt h 12 l0 7) l3 (gt h 54 (gt h 12 l0 7) l4)) 12 l0 8) l4) = k6 at hF ⊢
  refine ex_aload_n (q := 113) dX12_meets_112 rfl rfl ?_
  refine ex_get (q := 116) (v := vr 56 (gt k6 12 l0 9)) 9 dX12_meets_113 rfl fl_X12_28 g1 rfl rfl ?_
  refine ex_iload_n (q := 117) dX12_meets_116 rfl rfl ?_
  refine ex_aload_n (q := 118) dX12_meets_117 rfl rfl ?_
  refine ex_get (q := 121) (v := vr 56 (gt k6 12 l0 9)) 9 dX12_meets_118 rfl fl_X12_28 g1 rfl rfl ?_
  refine ex_iload (q := 123) dX12_meets_121 rfl rfl ?_
  obtain ⟨g7, hF⟩ := zg hF
  refine ex_iald (q := 124) dX12_meets_123 rfl kd_56 g7 g3.1 g3.2 ?_
  refine ex_iast (q := 125) dX12_meets_124 rfl kd_56 g7 g4.1 g4.2 ?_
  refine ex_aload_n (q := 126) dX12_meets_125 rfl rfl ?_
  refine ex_get (q := 129) (v := vr 57 (gt (pt k6 56 (gt k6 12 l0 9) l3 (gt k6 56 (gt k6 12 l0 9) l4)) 12 l0 10)) 10 dX12_meets_126 rfl fl_X12_31 g1 rfl rfl ?_
  refine ex_iload_n (q := 130) dX12_meets_129 rfl rfl ?_
  refine ex_iload (q := 132) dX12_meets_130 rfl rfl ?_
  obtain ⟨g8, hF⟩ := zg hF
  refine ex_iast (q := 133) dX12_meets_132 rfl kd_57 g8 g4.1 g4.2 ?_
  have hF := zl_e hF
  generalize pt (pt k6 56 (gt k6 12 l0 9) l3 (gt k6 56 (gt k6 12 l0 9) l4)) 57 (gt (pt k6 56 (gt k6 12 l0 9) l3 (gt k6 56 (gt k6 12 l0 9) l4)) 12 l0 10) l3 l6 = k9 at hF ⊢
  refine ex_iinc (q := 136) (lo' := [some (vr 12 l0), some (vi l1), some (vi l2), some (vi (wI (l3 + 1))), some (vi l4), none, some (vi l6)]) dX12_meets_133 rfl rfl (by decide) rfl rfl ?_
  refine ex_iinc (q := 139) (lo' := [some (vr 12 l0), some (vi l1), some (vi l2), some (vi (wI (l3 + 1))), some (vi (wI (l4 + 1))), none, some (vi l6)]) dX12_meets_136 rfl rfl (by decide) rfl rfl ?_
  refine ex_goto (q := 5) dX12_meets_139 (by decide) ?_
  exact ex_forget (lo' := [some (vr 12 l0), some (vi l1), some (vi l2), some (vi (wI (l3 + 1))), some (vi (wI (l4 + 1))), none, none]) ⟨Or.inr rfl, Or.inr rfl, Or.inr rfl, Or.inr rfl, Or.inr rfl, Or.inl rfl, Or.inl rfl, trivial⟩ (hag5 _ _ _ _ _ _ _ _ hF)
def F_X12_meets_40 (ag5 : Int → Int → Int → Int → Int → zH → zO) (l0 l1 l2 l3 l4 : Int) (h : zH) : zO := if 0 ≤ l0 then (if 0 ≤ gt h 12 l0 10 then (if 0 ≤ l4 ∧ l4 < 30 then (F_X12_meets_86 ag5 l0 l1 l2 l3 l4 (gt h 57 (gt h 12 l0 10) l4) h) else none) else none) else none
set_option maxHeartbeats 1000000 in
theorem x_X12_meets_40 {ag5 : Int → Int → Int → Int → Int → zH → zO} (hag5 : ∀ (l0 l1 l2 l3 l4 : Int) (h : zH) (r : Int) (h' : zH), ag5 l0 l1 l2 l3 l4 h = some (r, h') → Ex 0 M_X12_meets 5 [some (vr 12 l0), some (vi l1), some (vi l2), some (vi l3), some (vi l4), none, none] [] h (fun r1 h1 => r1 = some (vi r) ∧ h1 = h')) {l0 l1 l2 l3 l4 : Int} {h : zH} {r : Int} {h' : zH} (hF : F_X12_meets_40 ag5 l0 l1 l2 l3 l4 h = some (r, h')) : Ex 0 M_X12_meets 40 [some (vr 12 l0), some (vi l1), some (vi l2), some (vi l3), some (vi l4), none, none] [] h (fun r1 h1 => r1 = some (vi r) ∧ h1 = h') := by
  unfold F_X12_meets_40 at hF
  refine ex_iconst (q := 41) dX12_meets_40 rfl ⟨by decide, by decide⟩ ?_
  refine ex_istore (q := 43) (lo' := [some (vr 12 l0), some (vi l1), some (vi l2), some (vi l3), some (vi l4), some (vi 0), none]) dX12_meets_41 rfl (by decide) rfl rfl ?_
  refine ex_iload (q := 45) dX12_meets_43 rfl rfl ?_
  refine ex_if_eq (q := 48) (tgt := 60) dX12_meets_45 rfl (by decide) (fun c1 => ?_) (fun c1 => ?_)
  · refine ex_aload_n (q := 61) dX12_meets_60 rfl rfl ?_
    obtain ⟨g2, hF⟩ := zg hF
    refine ex_get (q := 64) (v := vr 57 (gt h 12 l0 10)) 10 dX12_meets_61 rfl fl_X12_31 g2 rfl rfl ?_
    refine ex_iload (q := 66) dX12_meets_64 rfl rfl ?_
    obtain ⟨g3, hF⟩ := zg hF
    obtain ⟨g4, hF⟩ := zg hF
    refine ex_iald (q := 67) dX12_meets_66 rfl kd_57 g3 g4.1 g4.2 ?_
    refine ex_istore (q := 69) (lo' := [some (vr 12 l0), some (vi l1), some (vi l2), some (vi l3), some (vi l4), some (vi 0), some (vi (gt h 57 (gt h 12 l0 10) l4))]) dX12_meets_67 rfl (by decide) rfl rfl ?_
    refine ex_iload (q := 71) dX12_meets_69 rfl rfl ?_
    refine ex_if_eq (q := 74) (tgt := 86) dX12_meets_71 rfl (by decide) (fun c5 => ?_) (fun c5 => ?_)
    · exact ex_forget (lo' := [some (vr 12 l0), some (vi l1), some (vi l2), some (vi l3), some (vi l4), none, some (vi (gt h 57 (gt h 12 l0 10) l4))]) ⟨Or.inr rfl, Or.inr rfl, Or.inr rfl, Or.inr rfl, Or.inr rfl, Or.inl rfl, Or.inr rfl, trivial⟩ (x_X12_meets_86 hag5 hF)
    · exact absurd (by decide) c5
  · exact absurd (by decide) c1
def F_X12_meets_5b (ag5 : Int → Int → Int → Int → Int → zH → zO) (l0 l1 l2 l3 l4 : Int) (h : zH) : zO := if 0 ≤ l0 then (if gt h 12 l0 6 ≤ l4 then (if gt h 12 l0 6 ≤ l3 then (some (0, (pt h 12 l0 6 l3))) else (some (1, (pt h 12 l0 6 l3)))) else (if 0 ≤ gt h 12 l0 7 then (if 0 ≤ l4 ∧ l4 < 30 then (if gt h 54 (gt h 12 l0 7) l4 ≠ l1 then (F_X12_meets_40 ag5 l0 l1 l2 l3 l4 h) else (if 0 ≤ gt h 12 l0 9 then (if gt h 56 (gt h 12 l0 9) l4 ≠ l2 then (F_X12_meets_40 ag5 l0 l1 l2 l3 l4 h) else (if 0 ≤ gt h 12 l0 10 then (if 0 ≤ gt h 12 l0 8 then (if gt h 55 (gt h 12 l0 8) l4 ≤ wI ((gt h 57 (gt h 12 l0 10) l4) + 1) then (ag5 l0 l1 l2 l3 (wI (l4 + 1)) h) else (F_X12_meets_86 ag5 l0 l1 l2 l3 l4 (wI ((gt h 57 (gt h 12 l0 10) l4) + 1)) h)) else none) else none)) else none)) else none) else none)) else none
set_option maxHeartbeats 1000000 in
theorem x_X12_meets_5b {ag5 : Int → Int → Int → Int → Int → zH → zO} (hag5 : ∀ (l0 l1 l2 l3 l4 : Int) (h : zH) (r : Int) (h' : zH), ag5 l0 l1 l2 l3 l4 h = some (r, h') → Ex 0 M_X12_meets 5 [some (vr 12 l0), some (vi l1), some (vi l2), some (vi l3), some (vi l4), none, none] [] h (fun r1 h1 => r1 = some (vi r) ∧ h1 = h')) {l0 l1 l2 l3 l4 : Int} {h : zH} {r : Int} {h' : zH} (hF : F_X12_meets_5b ag5 l0 l1 l2 l3 l4 h = some (r, h')) : Ex 0 M_X12_meets 5 [some (vr 12 l0), some (vi l1), some (vi l2), some (vi l3), some (vi l4), none, none] [] h (fun r1 h1 => r1 = some (vi r) ∧ h1 = h') := by
  unfold F_X12_meets_5b at hF
  refine ex_iload (q := 7) dX12_meets_5 rfl rfl ?_
  refine ex_aload_n (q := 8) dX12_meets_7 rfl rfl ?_
  obtain ⟨g1, hF⟩ := zg hF
  refine ex_get (q := 11) (v := vi (gt h 12 l0 6)) 6 dX12_meets_8 rfl fl_X12_167 g1 rfl rfl ?_
  refine ex_icmp_ge (q := 14) (tgt := 142) dX12_meets_11 rfl (by decide) (fun c2 => ?_) (fun c2 => ?_)
  · have hF := ip c2 hF
    refine ex_iload_n (q := 143) dX12_meets_142 rfl rfl ?_
    refine ex_aload_n (q := 144) dX12_meets_143 rfl rfl ?_
    refine ex_get (q := 147) (v := vi (gt h 12 l0 6)) 6 dX12_meets_144 rfl fl_X12_167 g1 rfl rfl ?_
    refine ex_icmp_ge (q := 150) (tgt := 154) dX12_meets_147 rfl (by decide) (fun c3 => ?_) (fun c3 => ?_)
    · have hF := ip c3 hF
      refine ex_iconst (q := 155) dX12_meets_154 rfl ⟨by decide, by decide⟩ ?_
      refine ex_istore (q := 157) (lo' := [some (vr 12 l0), some (vi l1), some (vi l2), some (vi l3), some (vi 0), none, none]) dX12_meets_155 rfl (by decide) rfl rfl ?_
      refine ex_aload_n (q := 158) dX12_meets_157 rfl rfl ?_
      refine ex_iload_n (q := 159) dX12_meets_158 rfl rfl ?_
      refine ex_put (q := 162) 6 dX12_meets_159 rfl fl_X12_167 (by decide) g1 rfl rfl (fun z => by cases z) ?_
      refine ex_iload (q := 164) dX12_meets_162 rfl rfl ?_
      obtain ⟨rfl, rfl⟩ := zr hF
      exact ex_ret (some (vi 0)) rfl ⟨dX12_meets_164, Or.inr ⟨rfl, (by decide)⟩⟩ ⟨rfl, rfl⟩
    · have hF := im c3 hF
      refine ex_iconst (q := 151) dX12_meets_150 rfl ⟨by decide, by decide⟩ ?_
      refine ex_goto (q := 155) dX12_meets_151 (by decide) ?_
      refine ex_istore (q := 157) (lo' := [some (vr 12 l0), some (vi l1), some (vi l2), some (vi l3), some (vi 1), none, none]) dX12_meets_155 rfl (by decide) rfl rfl ?_
      refine ex_aload_n (q := 158) dX12_meets_157 rfl rfl ?_
      refine ex_iload_n (q := 159) dX12_meets_158 rfl rfl ?_
      refine ex_put (q := 162) 6 dX12_meets_159 rfl fl_X12_167 (by decide) g1 rfl rfl (fun z => by cases z) ?_
      refine ex_iload (q := 164) dX12_meets_162 rfl rfl ?_
      obtain ⟨rfl, rfl⟩ := zr hF
      exact ex_ret (some (vi 1)) rfl ⟨dX12_meets_164, Or.inr ⟨rfl, (by decide)⟩⟩ ⟨rfl, rfl⟩
  · have hF := im c2 hF
    refine ex_aload_n (q := 15) dX12_meets_14 rfl rfl ?_
    refine ex_get (q := 18) (v := vr 54 (gt h 12 l0 7)) 7 dX12_meets_15 rfl fl_X12_22 g1 rfl rfl ?_
    refine ex_iload (q := 20) dX12_meets_18 rfl rfl ?_
    obtain ⟨g4, hF⟩ := zg hF
    obtain ⟨g5, hF⟩ := zg hF
    refine ex_iald (q := 21) dX12_meets_20 rfl kd_54 g4 g5.1 g5.2 ?_
    refine ex_iload_n (q := 22) dX12_meets_21 rfl rfl ?_
    refine ex_icmp_ne (q := 25) (tgt := 40) dX12_meets_22 rfl (by decide) (fun c6 => ?_) (fun c6 => ?_)
    · have hF := ip c6 hF
      exact ex_forget (lo' := [some (vr 12 l0), some (vi l1), some (vi l2), some (vi l3), some (vi l4), none, none]) ⟨Or.inr rfl, Or.inr rfl, Or.inr rfl, Or.inr rfl, Or.inr rfl, Or.inl rfl, Or.inl rfl, trivial⟩ (x_X12_meets_40 hag5 hF)
    · have hF := im c6 hF
      refine ex_aload_n (q := 26) dX12_meets_25 rfl rfl ?_
      refine ex_get (q := 29) (v := vr 56 (gt h 12 l0 9)) 9 dX12_meets_26 rfl fl_X12_28 g1 rfl rfl ?_
      refine ex_iload (q := 31) dX12_meets_29 rfl rfl ?_
      obtain ⟨g7, hF⟩ := zg hF
      refine ex_iald (q := 32) dX12_meets_31 rfl kd_56 g7 g5.1 g5.2 ?_
      refine ex_iload_n (q := 33) dX12_meets_32 rfl rfl ?_
      refine ex_icmp_ne (q := 36) (tgt := 40) dX12_meets_33 rfl (by decide) (fun c8 => ?_) (fun c8 => ?_)
      · have hF := ip c8 hF
        exact ex_forget (lo' := [some (vr 12 l0), some (vi l1), some (vi l2), some (vi l3), some (vi l4), none, none]) ⟨Or.inr rfl, Or.inr rfl, Or.inr rfl, Or.inr rfl, Or.inr rfl, Or.inl rfl, Or.inl rfl, trivial⟩ (x_X12_meets_40 hag5 hF)
      · have hF := im c8 hF
        refine ex_iconst (q := 37) dX12_meets_36 rfl ⟨by decide, by decide⟩ ?_
        refine ex_goto (q := 41) dX12_meets_37 (by decide) ?_
        refine ex_istore (q := 43) (lo' := [some (vr 12 l0), some (vi l1), some (vi l2), some (vi l3), some (vi l4), some (vi 1), none]) dX12_meets_41 rfl (by decide) rfl rfl ?_
        refine ex_iload (q := 45) dX12_meets_43 rfl rfl ?_
        refine ex_if_eq (q := 48) (tgt := 60) dX12_meets_45 rfl (by decide) (fun c9 => ?_) (fun c9 => ?_)
        · exact absurd c9 (by decide)
        · refine ex_aload_n (q := 49) dX12_meets_48 rfl rfl ?_
          refine ex_get (q := 52) (v := vr 57 (gt h 12 l0 10)) 10 dX12_meets_49 rfl fl_X12_31 g1 rfl rfl ?_
          refine ex_iload (q := 54) dX12_meets_52 rfl rfl ?_
          obtain ⟨g10, hF⟩ := zg hF
          refine ex_iald (q := 55) dX12_meets_54 rfl kd_57 g10 g5.1 g5.2 ?_
          refine ex_iconst (q := 56) dX12_meets_55 rfl ⟨by decide, by decide⟩ ?_
          refine ex_iadd (q := 57) dX12_meets_56 rfl ?_
          refine ex_goto (q := 67) dX12_meets_57 (by decide) ?_
          refine ex_istore (q := 69) (lo' := [some (vr 12 l0), some (vi l1), some (vi l2), some (vi l3), some (vi l4), some (vi 1), some (vi (wI ((gt h 57 (gt h 12 l0 10) l4) + 1)))]) dX12_meets_67 rfl (by decide) rfl rfl ?_
          refine ex_iload (q := 71) dX12_meets_69 rfl rfl ?_
          refine ex_if_eq (q := 74) (tgt := 86) dX12_meets_71 rfl (by decide) (fun c11 => ?_) (fun c11 => ?_)
          · exact absurd c11 (by decide)
          · refine ex_iload (q := 76) dX12_meets_74 rfl rfl ?_
            refine ex_aload_n (q := 77) dX12_meets_76 rfl rfl ?_
            refine ex_get (q := 80) (v := vr 55 (gt h 12 l0 8)) 8 dX12_meets_77 rfl fl_X12_25 g1 rfl rfl ?_
            refine ex_iload (q := 82) dX12_meets_80 rfl rfl ?_
            obtain ⟨g12, hF⟩ := zg hF
            refine ex_iald (q := 83) dX12_meets_82 rfl kd_55 g12 g5.1 g5.2 ?_
            refine ex_icmp_ge (q := 86) (tgt := 136) dX12_meets_83 rfl (by decide) (fun c13 => ?_) (fun c13 => ?_)
            · have hF := ip c13 hF
              refine ex_iinc (q := 139) (lo' := [some (vr 12 l0), some (vi l1), some (vi l2), some (vi l3), some (vi (wI (l4 + 1))), some (vi 1), some (vi (wI ((gt h 57 (gt h 12 l0 10) l4) + 1)))]) dX12_meets_136 rfl rfl (by decide) rfl rfl ?_
              refine ex_goto (q := 5) dX12_meets_139 (by decide) ?_
              exact ex_forget (lo' := [some (vr 12 l0), some (vi l1), some (vi l2), some (vi l3), some (vi (wI (l4 + 1))), none, none]) ⟨Or.inr rfl, Or.inr rfl, Or.inr rfl, Or.inr rfl, Or.inr rfl, Or.inl rfl, Or.inl rfl, trivial⟩ (hag5 _ _ _ _ _ _ _ _ hF)
            · have hF := im c13 hF
              exact ex_forget (lo' := [some (vr 12 l0), some (vi l1), some (vi l2), some (vi l3), some (vi l4), none, some (vi (wI ((gt h 57 (gt h 12 l0 10) l4) + 1)))]) ⟨Or.inr rfl, Or.inr rfl, Or.inr rfl, Or.inr rfl, Or.inr rfl, Or.inl rfl, Or.inr rfl, trivial⟩ (x_X12_meets_86 hag5 hF)
def F_X12_meets_5 : Nat → Int → Int → Int → Int → Int → zH → zO
  | 0, _, _, _, _, _, _ => none
  | n + 1, l0, l1, l2, l3, l4, h => F_X12_meets_5b (F_X12_meets_5 n) l0 l1 l2 l3 l4 h
theorem x_X12_meets_5 : ∀ (n : Nat) (l0 l1 l2 l3 l4 : Int) (h : zH) (r : Int) (h' : zH), F_X12_meets_5 n l0 l1 l2 l3 l4 h = some (r, h') → Ex 0 M_X12_meets 5 [some (vr 12 l0), some (vi l1), some (vi l2), some (vi l3), some (vi l4), none, none] [] h (fun r1 h1 => r1 = some (vi r) ∧ h1 = h')
  | 0, _, _, _, _, _, _, _, _, hF => by cases hF
  | n + 1, _, _, _, _, _, _, _, _, hF => x_X12_meets_5b (x_X12_meets_5 n) hF
def F_X12_meets_0 (l0 l1 l2 : Int) (h : zH) : zO := F_X12_meets_5 zF l0 l1 l2 0 0 h
set_option maxHeartbeats 1000000 in
theorem x_X12_meets_0 {l0 l1 l2 : Int} {h : zH} {r : Int} {h' : zH} (hF : F_X12_meets_0 l0 l1 l2 h = some (r, h')) : Ex 0 M_X12_meets 0 [some (vr 12 l0), some (vi l1), some (vi l2), none, none, none, none] [] h (fun r1 h1 => r1 = some (vi r) ∧ h1 = h') := by
  unfold F_X12_meets_0 at hF
  refine ex_iconst (q := 1) dX12_meets_0 rfl ⟨by decide, by decide⟩ ?_
  refine ex_istore_n (q := 2) (lo' := [some (vr 12 l0), some (vi l1), some (vi l2), some (vi 0), none, none, none]) dX12_meets_1 rfl (by decide) rfl rfl ?_
  refine ex_iconst (q := 3) dX12_meets_2 rfl ⟨by decide, by decide⟩ ?_
  refine ex_istore (q := 5) (lo' := [some (vr 12 l0), some (vi l1), some (vi l2), some (vi 0), some (vi 0), none, none]) dX12_meets_3 rfl (by decide) rfl rfl ?_
  exact ex_forget (lo' := [some (vr 12 l0), some (vi l1), some (vi l2), some (vi 0), some (vi 0), none, none]) ⟨Or.inr rfl, Or.inr rfl, Or.inr rfl, Or.inr rfl, Or.inr rfl, Or.inl rfl, Or.inl rfl, trivial⟩ (x_X12_meets_5 _ _ _ _ _ _ _ _ _ hF)
def F_X12_meets (l0 l1 l2 : Int) (h : zH) : zO := F_X12_meets_0 l0 l1 l2 h
theorem run_X12_meets {l0 l1 l2 : Int} {h : zH} {r : Int} {h' : zH} (hF : F_X12_meets l0 l1 l2 h = some (r, h')) : Run 0 yX12_meets cX12_meets 7 (some .boolean) [vr 12 l0, vi l1, vi l2] h (some (vi r)) h' := run_of (M := M_X12_meets) (by decide) rfl (fun z => by cases z) (Nat.le_of_ble_eq_true rfl) (x_X12_meets_0 hF)
abbrev M_X12_comesBack : zM := (RX12, (cX12_comesBack, (6, ((some .boolean), false))))
def F_X12_comesBack_68 (l0 l1 l2 l4 : Int) (h : zH) : zO := if 0 ≤ l0 then (if 0 ≤ gt h 12 l0 12 then (if 0 ≤ gt h 12 l0 13 then (if 0 ≤ (gt h 12 l0 12) % 60 ∧ (gt h 12 l0 12) % 60 < 60 then (if 0 ≤ gt (pt h 59 (gt h 12 l0 13) ((gt h 12 l0 12) % 60) l1) 12 l0 14 then (zl (pt (pt h 59 (gt h 12 l0 13) ((gt h 12 l0 12) % 60) l1) 60 (gt (pt h 59 (gt h 12 l0 13) ((gt h 12 l0 12) % 60) l1) 12 l0 14) ((gt h 12 l0 12) % 60) l2) (fun k6 => if l4 = 0 then (if 0 ≤ gt k6 12 l0 15 then (zl (pt (pt k6 61 (gt k6 12 l0 15) ((gt h 12 l0 12) % 60) 0) 12 l0 12 (wI ((gt (pt k6 61 (gt k6 12 l0 15) ((gt h 12 l0 12) % 60) 0) 12 l0 12) + 1))) (fun k9 => if l4 = 0 ∨ l4 = 1 then some (l4, k9) else none)) else none) else (if 0 ≤ gt k6 12 l0 15 then (zl (pt (pt k6 61 (gt k6 12 l0 15) ((gt h 12 l0 12) % 60) 1) 12 l0 12 (wI ((gt (pt k6 61 (gt k6 12 l0 15) ((gt h 12 l0 12) % 60) 1) 12 l0 12) + 1))) (fun k12 => if l4 = 0 ∨ l4 = 1 then some (l4, k12) else none)) else none))) else none) else none) else none) else none) else none
set_option maxHeartbeats 1000000 in
theorem x_X12_comesBack_68 {l0 l1 l2 l4 : Int} {h : zH} {r : Int} {h' : zH} (hF : F_X12_comesBack_68 l0 l1 l2 l4 h = some (r, h')) : Ex 1 M_X12_comesBack 68 [some (vr 12 l0), some (vi l1), some (vi l2), none, some (vi l4), none] [] h (fun r1 h1 => r1 = some (vi r) ∧ h1 = h') := by
  unfold F_X12_comesBack_68 at hF
  refine ex_aload_n (q := 69) dX12_comesBack_68 rfl rfl ?_
  obtain ⟨g1, hF⟩ := zg hF
  refine ex_get (q := 72) (v := vi (gt h 12 l0 12)) 12 dX12_comesBack_69 rfl fl_X12_174 g1 rfl rfl ?_
  refine ex_bipush (q := 74) dX12_comesBack_72 rfl (by decide) ⟨by decide, by decide⟩ ?_
  obtain ⟨g2, hF⟩ := zg hF
  refine ex_irem (q := 75) dX12_comesBack_74 rfl g2 (by decide) ?_
  refine ex_istore (q := 77) (lo' := [some (vr 12 l0), some (vi l1), some (vi l2), none, some (vi l4), some (vi ((gt h 12 l0 12) % 60))]) dX12_comesBack_75 rfl (by decide) rfl rfl ?_
  refine ex_aload_n (q := 78) dX12_comesBack_77 rfl rfl ?_
  refine ex_get (q := 81) (v := vr 59 (gt h 12 l0 13)) 13 dX12_comesBack_78 rfl fl_X12_38 g1 rfl rfl ?_
  refine ex_iload (q := 83) dX12_comesBack_81 rfl rfl ?_
  refine ex_iload_n (q := 84) dX12_comesBack_83 rfl rfl ?_
  obtain ⟨g3, hF⟩ := zg hF
  obtain ⟨g4, hF⟩ := zg hF
  refine ex_iast (q := 85) dX12_comesBack_84 rfl kd_59 g3 g4.1 g4.2 ?_
  refine ex_aload_n (q := 86) dX12_comesBack_85 rfl rfl ?_
  refine ex_get (q := 89) (v := vr 60 (gt (pt h 59 (gt h 12 l0 13) ((gt h 12 l0 12) % 60) l1) 12 l0 14)) 14 dX12_comesBack_86 rfl fl_X12_41 g1 rfl rfl ?_
  refine ex_iload (q := 91) dX12_comesBack_89 rfl rfl ?_
  refine ex_iload_n (q := 92) dX12_comesBack_91 rfl rfl ?_
  obtain ⟨g5, hF⟩ := zg hF
  refine ex_iast (q := 93) dX12_comesBack_92 rfl kd_60 g5 g4.1 g4.2 ?_
  have hF := zl_e hF
  generalize pt (pt h 59 (gt h 12 l0 13) ((gt h 12 l0 12) % 60) l1) 60 (gt (pt h 59 (gt h 12 l0 13) ((gt h 12 l0 12) % 60) l1) 12 l0 14) ((gt h 12 l0 12) % 60) l2 = k6 at hF ⊢
  refine ex_aload_n (q := 94) dX12_comesBack_93 rfl rfl ?_
  refine ex_get (q := 97) (v := vr 61 (gt k6 12 l0 15)) 15 dX12_comesBack_94 rfl fl_X12_44 g1 rfl rfl ?_
  refine ex_iload (q := 99) dX12_comesBack_97 rfl rfl ?_
  refine ex_iload (q := 101) dX12_comesBack_99 rfl rfl ?_
  refine ex_if_eq (q := 104) (tgt := 108) dX12_comesBack_101 rfl (by decide) (fun c7 => ?_) (fun c7 => ?_)
  · have hF := ip c7 hF
    refine ex_iconst (q := 109) dX12_comesBack_108 rfl ⟨by decide, by decide⟩ ?_
    obtain ⟨g8, hF⟩ := zg hF
    refine ex_iast (q := 110) dX12_comesBack_109 rfl kd_61 g8 g4.1 g4.2 ?_
    refine ex_aload_n (q := 111) dX12_comesBack_110 rfl rfl ?_
    refine ex_dup (q := 112) dX12_comesBack_111 rfl (fun _ z => by cases z) ?_
    refine ex_get (q := 115) (v := vi (gt (pt k6 61 (gt k6 12 l0 15) ((gt h 12 l0 12) % 60) 0) 12 l0 12)) 12 dX12_comesBack_112 rfl fl_X12_174 g1 rfl rfl ?_
    refine ex_iconst (q := 116) dX12_comesBack_115 rfl ⟨by decide, by decide⟩ ?_
    refine ex_iadd (q := 117) dX12_comesBack_116 rfl ?_
    refine ex_put (q := 120) 12 dX12_comesBack_117 rfl fl_X12_174 (by decide) g1 rfl rfl (fun z => by cases z) ?_
    have hF := zl_e hF
    generalize pt (pt k6 61 (gt k6 12 l0 15) ((gt h 12 l0 12) % 60) 0) 12 l0 12 (wI ((gt (pt k6 61 (gt k6 12 l0 15) ((gt h 12 l0 12) % 60) 0) 12 l0 12) + 1)) = k9 at hF ⊢
    refine ex_iload (q := 122) dX12_comesBack_120 rfl rfl ?_
    obtain ⟨g10, hF⟩ := zg hF
    obtain ⟨rfl, rfl⟩ := zr hF
    exact ex_ret (some (vi l4)) rfl ⟨dX12_comesBack_122, Or.inr ⟨rfl, g10⟩⟩ ⟨rfl, rfl⟩
  · have hF := im c7 hF
    refine ex_iconst (q := 105) dX12_comesBack_104 rfl ⟨by decide, by decide⟩ ?_
    refine ex_goto (q := 109) dX12_comesBack_105 (by decide) ?_
    obtain ⟨g11, hF⟩ := zg hF
    refine ex_iast (q := 110) dX12_comesBack_109 rfl kd_61 g11 g4.1 g4.2 ?_
    refine ex_aload_n (q := 111) dX12_comesBack_110 rfl rfl ?_
    refine ex_dup (q := 112) dX12_comesBack_111 rfl (fun _ z => by cases z) ?_
    refine ex_get (q := 115) (v := vi (gt (pt k6 61 (gt k6 12 l0 15) ((gt h 12 l0 12) % 60) 1) 12 l0 12)) 12 dX12_comesBack_112 rfl fl_X12_174 g1 rfl rfl ?_
    refine ex_iconst (q := 116) dX12_comesBack_115 rfl ⟨by decide, by decide⟩ ?_
    refine ex_iadd (q := 117) dX12_comesBack_116 rfl ?_
    refine ex_put (q := 120) 12 dX12_comesBack_117 rfl fl_X12_174 (by decide) g1 rfl rfl (fun z => by cases z) ?_
    have hF := zl_e hF
    generalize pt (pt k6 61 (gt k6 12 l0 15) ((gt h 12 l0 12) % 60) 1) 12 l0 12 (wI ((gt (pt k6 61 (gt k6 12 l0 15) ((gt h 12 l0 12) % 60) 1) 12 l0 12) + 1)) = k12 at hF ⊢
    refine ex_iload (q := 122) dX12_comesBack_120 rfl rfl ?_
    obtain ⟨g13, hF⟩ := zg hF
    obtain ⟨rfl, rfl⟩ := zr hF
    exact ex_ret (some (vi l4)) rfl ⟨dX12_comesBack_122, Or.inr ⟨rfl, g13⟩⟩ ⟨rfl, rfl⟩
def F_X12_comesBack_0 (l0 l1 l2 l3 : Int) (h : zH) : zO := if 0 ≤ l0 then (zb (F_X12_meets l0 l1 1 h) (fun r1 h1 => if r1 = 0 then (if 0 ≤ gt h1 12 l0 3 then (if 0 ≤ l1 ∧ l1 < 60 then (if r1 = 0 then (if 0 ≤ gt (pt h1 52 (gt h1 12 l0 3) l1 2) 12 l0 5 then (if 0 ≤ gt (pt h1 52 (gt h1 12 l0 3) l1 2) 12 l0 4 ∧ gt (pt h1 52 (gt h1 12 l0 3) l1 2) 12 l0 4 < 60 then (zl (pt (pt h1 52 (gt h1 12 l0 3) l1 2) 53 (gt (pt h1 52 (gt h1 12 l0 3) l1 2) 12 l0 5) (gt (pt h1 52 (gt h1 12 l0 3) l1 2) 12 l0 4) l1) (fun k9 => F_X12_comesBack_68 l0 l1 l2 r1 (pt k9 12 l0 4 (wI ((gt k9 12 l0 4) + 1))))) else none) else none) else (if 0 ≤ gt (pt h1 52 (gt h1 12 l0 3) l1 2) 12 l0 11 then (if 0 ≤ l3 ∧ l3 < 8 then (if 0 ≤ gt (pt h1 52 (gt h1 12 l0 3) l1 2) 12 l0 2 then (zl (pt (pt h1 52 (gt h1 12 l0 3) l1 2) 58 (gt (pt h1 52 (gt h1 12 l0 3) l1 2) 12 l0 11) l3 (wL ((gt (pt h1 52 (gt h1 12 l0 3) l1 2) 58 (gt (pt h1 52 (gt h1 12 l0 3) l1 2) 12 l0 11) l3) + (gt (pt h1 52 (gt h1 12 l0 3) l1 2) 51 (gt (pt h1 52 (gt h1 12 l0 3) l1 2) 12 l0 2) l1)))) (fun k13 => F_X12_comesBack_68 l0 l1 l2 r1 k13)) else none) else none) else none)) else none) else none) else (if 0 ≤ gt h1 12 l0 3 then (if 0 ≤ l1 ∧ l1 < 60 then (if r1 = 0 then (if 0 ≤ gt (pt h1 52 (gt h1 12 l0 3) l1 3) 12 l0 5 then (if 0 ≤ gt (pt h1 52 (gt h1 12 l0 3) l1 3) 12 l0 4 ∧ gt (pt h1 52 (gt h1 12 l0 3) l1 3) 12 l0 4 < 60 then (zl (pt (pt h1 52 (gt h1 12 l0 3) l1 3) 53 (gt (pt h1 52 (gt h1 12 l0 3) l1 3) 12 l0 5) (gt (pt h1 52 (gt h1 12 l0 3) l1 3) 12 l0 4) l1) (fun k19 => F_X12_comesBack_68 l0 l1 l2 r1 (pt k19 12 l0 4 (wI ((gt k19 12 l0 4) + 1))))) else none) else none) else (if 0 ≤ gt (pt h1 52 (gt h1 12 l0 3) l1 3) 12 l0 11 then (if 0 ≤ l3 ∧ l3 < 8 then (if 0 ≤ gt (pt h1 52 (gt h1 12 l0 3) l1 3) 12 l0 2 then (zl (pt (pt h1 52 (gt h1 12 l0 3) l1 3) 58 (gt (pt h1 52 (gt h1 12 l0 3) l1 3) 12 l0 11) l3 (wL ((gt (pt h1 52 (gt h1 12 l0 3) l1 3) 58 (gt (pt h1 52 (gt h1 12 l0 3) l1 3) 12 l0 11) l3) + (gt (pt h1 52 (gt h1 12 l0 3) l1 3) 51 (gt (pt h1 52 (gt h1 12 l0 3) l1 3) 12 l0 2) l1)))) (fun k23 => F_X12_comesBack_68 l0 l1 l2 r1 k23)) else none) else none) else none)) else none) else none))) else none
set_option maxHeartbeats 1000000 in
theorem x_X12_comesBack_0 {l0 l1 l2 l3 : Int} {h : zH} {r : Int} {h' : zH} (hF : F_X12_comesBack_0 l0 l1 l2 l3 h = some (r, h')) : Ex 1 M_X12_comesBack 0 [some (vr 12 l0), some (vi l1), some (vi l2), some (vi l3), none, none] [] h (fun r1 h1 => r1 = some (vi r) ∧ h1 = h') := by
  unfold F_X12_comesBack_0 at hF
  refine ex_aload_n (q := 1) dX12_comesBack_0 rfl rfl ?_
  refine ex_iload_n (q := 2) dX12_comesBack_1 rfl rfl ?_
  refine ex_iconst (q := 3) dX12_comesBack_2 rfl ⟨by decide, by decide⟩ ?_
  obtain ⟨g2, hF⟩ := zg hF
  obtain ⟨r1, h1, e1, hF⟩ := zb_some hF
  refine ex_callV (d' := 0) (q := 6) (as := [vi l1, vi 1]) (st1 := [vi r1]) (r := (some (vi r1))) (h2 := h1) dX12_comesBack_3 rfl (run_X12_meets e1) mc_X12_meets mv_X12_meets ml_X12_170 (by decide) g2 rfl rfl (Nat.le_of_ble_eq_true rfl) rfl ?_
  refine ex_istore (q := 8) (lo' := [some (vr 12 l0), some (vi l1), some (vi l2), some (vi l3), some (vi r1), none]) dX12_comesBack_6 rfl (by decide) rfl rfl ?_
  refine ex_aload_n (q := 9) dX12_comesBack_8 rfl rfl ?_
  refine ex_get (q := 12) (v := vr 52 (gt h1 12 l0 3)) 3 dX12_comesBack_9 rfl fl_X12_16 g2 rfl rfl ?_
  refine ex_iload_n (q := 13) dX12_comesBack_12 rfl rfl ?_
  refine ex_iload (q := 15) dX12_comesBack_13 rfl rfl ?_
  refine ex_if_eq (q := 18) (tgt := 22) dX12_comesBack_15 rfl (by decide) (fun c3 => ?_) (fun c3 => ?_)
  · have hF := ip c3 hF
    refine ex_iconst (q := 23) dX12_comesBack_22 rfl ⟨by decide, by decide⟩ ?_
    obtain ⟨g4, hF⟩ := zg hF
    obtain ⟨g5, hF⟩ := zg hF
    refine ex_iast (q := 24) dX12_comesBack_23 rfl kd_52 g4 g5.1 g5.2 ?_
    refine ex_iload (q := 26) dX12_comesBack_24 rfl rfl ?_
    refine ex_if_eq (q := 29) (tgt := 48) dX12_comesBack_26 rfl (by decide) (fun c6 => ?_) (fun c6 => ?_)
    · have hF := ip c6 hF
      refine ex_aload_n (q := 49) dX12_comesBack_48 rfl rfl ?_
      refine ex_get (q := 52) (v := vr 53 (gt (pt h1 52 (gt h1 12 l0 3) l1 2) 12 l0 5)) 5 dX12_comesBack_49 rfl fl_X12_19 g2 rfl rfl ?_
      refine ex_aload_n (q := 53) dX12_comesBack_52 rfl rfl ?_
      refine ex_get (q := 56) (v := vi (gt (pt h1 52 (gt h1 12 l0 3) l1 2) 12 l0 4)) 4 dX12_comesBack_53 rfl fl_X12_162 g2 rfl rfl ?_
      refine ex_iload_n (q := 57) dX12_comesBack_56 rfl rfl ?_
      obtain ⟨g7, hF⟩ := zg hF
      obtain ⟨g8, hF⟩ := zg hF
      refine ex_iast (q := 58) dX12_comesBack_57 rfl kd_53 g7 g8.1 g8.2 ?_
      have hF := zl_e hF
      generalize pt (pt h1 52 (gt h1 12 l0 3) l1 2) 53 (gt (pt h1 52 (gt h1 12 l0 3) l1 2) 12 l0 5) (gt (pt h1 52 (gt h1 12 l0 3) l1 2) 12 l0 4) l1 = k9 at hF ⊢
      refine ex_aload_n (q := 59) dX12_comesBack_58 rfl rfl ?_
      refine ex_dup (q := 60) dX12_comesBack_59 rfl (fun _ z => by cases z) ?_
      refine ex_get (q := 63) (v := vi (gt k9 12 l0 4)) 4 dX12_comesBack_60 rfl fl_X12_162 g2 rfl rfl ?_
      refine ex_iconst (q := 64) dX12_comesBack_63 rfl ⟨by decide, by decide⟩ ?_
      refine ex_iadd (q := 65) dX12_comesBack_64 rfl ?_
      refine ex_put (q := 68) 4 dX12_comesBack_65 rfl fl_X12_162 (by decide) g2 rfl rfl (fun z => by cases z) ?_
      exact ex_forget (lo' := [some (vr 12 l0), some (vi l1), some (vi l2), none, some (vi r1), none]) ⟨Or.inr rfl, Or.inr rfl, Or.inr rfl, Or.inl rfl, Or.inr rfl, Or.inl rfl, trivial⟩ (x_X12_comesBack_68 hF)
    · have hF := im c6 hF
      refine ex_aload_n (q := 30) dX12_comesBack_29 rfl rfl ?_
      refine ex_get (q := 33) (v := vr 58 (gt (pt h1 52 (gt h1 12 l0 3) l1 2) 12 l0 11)) 11 dX12_comesBack_30 rfl fl_X12_34 g2 rfl rfl ?_
      refine ex_iload_n (q := 34) dX12_comesBack_33 rfl rfl ?_
      refine ex_dup2 (q := 35) dX12_comesBack_34 rfl (fun _ z => by cases z) (fun _ z => by cases z) ?_
      obtain ⟨g10, hF⟩ := zg hF
      obtain ⟨g11, hF⟩ := zg hF
      refine ex_lald (q := 36) dX12_comesBack_35 rfl kd_58 g10 g11.1 g11.2 ?_
      refine ex_aload_n (q := 37) dX12_comesBack_36 rfl rfl ?_
      refine ex_get (q := 40) (v := vr 51 (gt (pt h1 52 (gt h1 12 l0 3) l1 2) 12 l0 2)) 2 dX12_comesBack_37 rfl fl_X12_13 g2 rfl rfl ?_
      refine ex_iload_n (q := 41) dX12_comesBack_40 rfl rfl ?_
      obtain ⟨g12, hF⟩ := zg hF
      refine ex_iald (q := 42) dX12_comesBack_41 rfl kd_51 g12 g5.1 g5.2 ?_
      refine ex_i2l (q := 43) dX12_comesBack_42 rfl ?_
      refine ex_ladd (q := 44) dX12_comesBack_43 rfl ?_
      refine ex_last (q := 45) dX12_comesBack_44 rfl kd_58 g10 g11.1 g11.2 ?_
      have hF := zl_e hF
      generalize pt (pt h1 52 (gt h1 12 l0 3) l1 2) 58 (gt (pt h1 52 (gt h1 12 l0 3) l1 2) 12 l0 11) l3 (wL ((gt (pt h1 52 (gt h1 12 l0 3) l1 2) 58 (gt (pt h1 52 (gt h1 12 l0 3) l1 2) 12 l0 11) l3) + (gt (pt h1 52 (gt h1 12 l0 3) l1 2) 51 (gt (pt h1 52 (gt h1 12 l0 3) l1 2) 12 l0 2) l1))) = k13 at hF ⊢
      refine ex_goto (q := 68) dX12_comesBack_45 (by decide) ?_
      exact ex_forget (lo' := [some (vr 12 l0), some (vi l1), some (vi l2), none, some (vi r1), none]) ⟨Or.inr rfl, Or.inr rfl, Or.inr rfl, Or.inl rfl, Or.inr rfl, Or.inl rfl, trivial⟩ (x_X12_comesBack_68 hF)
  · have hF := im c3 hF
    refine ex_iconst (q := 19) dX12_comesBack_18 rfl ⟨by decide, by decide⟩ ?_
    refine ex_goto (q := 23) dX12_comesBack_19 (by decide) ?_
    obtain ⟨g14, hF⟩ := zg hF
    obtain ⟨g15, hF⟩ := zg hF
    refine ex_iast (q := 24) dX12_comesBack_23 rfl kd_52 g14 g15.1 g15.2 ?_
    refine ex_iload (q := 26) dX12_comesBack_24 rfl rfl ?_
    refine ex_if_eq (q := 29) (tgt := 48) dX12_comesBack_26 rfl (by decide) (fun c16 => ?_) (fun c16 => ?_)
    · have hF := ip c16 hF
      refine ex_aload_n (q := 49) dX12_comesBack_48 rfl rfl ?_
      refine ex_get (q := 52) (v := vr 53 (gt (pt h1 52 (gt h1 12 l0 3) l1 3) 12 l0 5)) 5 dX12_comesBack_49 rfl fl_X12_19 g2 rfl rfl ?_
      refine ex_aload_n (q := 53) dX12_comesBack_52 rfl rfl ?_
      refine ex_get (q := 56) (v := vi (gt (pt h1 52 (gt h1 12 l0 3) l1 3) 12 l0 4)) 4 dX12_comesBack_53 rfl fl_X12_162 g2 rfl rfl ?_
      refine ex_iload_n (q := 57) dX12_comesBack_56 rfl rfl ?_
      obtain ⟨g17, hF⟩ := zg hF
      obtain ⟨g18, hF⟩ := zg hF
      refine ex_iast (q := 58) dX12_comesBack_57 rfl kd_53 g17 g18.1 g18.2 ?_
      have hF := zl_e hF
      generalize pt (pt h1 52 (gt h1 12 l0 3) l1 3) 53 (gt (pt h1 52 (gt h1 12 l0 3) l1 3) 12 l0 5) (gt (pt h1 52 (gt h1 12 l0 3) l1 3) 12 l0 4) l1 = k19 at hF ⊢
      refine ex_aload_n (q := 59) dX12_comesBack_58 rfl rfl ?_
      refine ex_dup (q := 60) dX12_comesBack_59 rfl (fun _ z => by cases z) ?_
      refine ex_get (q := 63) (v := vi (gt k19 12 l0 4)) 4 dX12_comesBack_60 rfl fl_X12_162 g2 rfl rfl ?_
      refine ex_iconst (q := 64) dX12_comesBack_63 rfl ⟨by decide, by decide⟩ ?_
      refine ex_iadd (q := 65) dX12_comesBack_64 rfl ?_
      refine ex_put (q := 68) 4 dX12_comesBack_65 rfl fl_X12_162 (by decide) g2 rfl rfl (fun z => by cases z) ?_
      exact ex_forget (lo' := [some (vr 12 l0), some (vi l1), some (vi l2), none, some (vi r1), none]) ⟨Or.inr rfl, Or.inr rfl, Or.inr rfl, Or.inl rfl, Or.inr rfl, Or.inl rfl, trivial⟩ (x_X12_comesBack_68 hF)
    · have hF := im c16 hF
      refine ex_aload_n (q := 30) dX12_comesBack_29 rfl rfl ?_
      refine ex_get (q := 33) (v := vr 58 (gt (pt h1 52 (gt h1 12 l0 3) l1 3) 12 l0 11)) 11 dX12_comesBack_30 rfl fl_X12_34 g2 rfl rfl ?_
      refine ex_iload_n (q := 34) dX12_comesBack_33 rfl rfl ?_
      refine ex_dup2 (q := 35) dX12_comesBack_34 rfl (fun _ z => by cases z) (fun _ z => by cases z) ?_
      obtain ⟨g20, hF⟩ := zg hF
      obtain ⟨g21, hF⟩ := zg hF
      refine ex_lald (q := 36) dX12_comesBack_35 rfl kd_58 g20 g21.1 g21.2 ?_
      refine ex_aload_n (q := 37) dX12_comesBack_36 rfl rfl ?_
      refine ex_get (q := 40) (v := vr 51 (gt (pt h1 52 (gt h1 12 l0 3) l1 3) 12 l0 2)) 2 dX12_comesBack_37 rfl fl_X12_13 g2 rfl rfl ?_
      refine ex_iload_n (q := 41) dX12_comesBack_40 rfl rfl ?_
      obtain ⟨g22, hF⟩ := zg hF
      refine ex_iald (q := 42) dX12_comesBack_41 rfl kd_51 g22 g15.1 g15.2 ?_
      refine ex_i2l (q := 43) dX12_comesBack_42 rfl ?_
      refine ex_ladd (q := 44) dX12_comesBack_43 rfl ?_
      refine ex_last (q := 45) dX12_comesBack_44 rfl kd_58 g20 g21.1 g21.2 ?_
      have hF := zl_e hF
      generalize pt (pt h1 52 (gt h1 12 l0 3) l1 3) 58 (gt (pt h1 52 (gt h1 12 l0 3) l1 3) 12 l0 11) l3 (wL ((gt (pt h1 52 (gt h1 12 l0 3) l1 3) 58 (gt (pt h1 52 (gt h1 12 l0 3) l1 3) 12 l0 11) l3) + (gt (pt h1 52 (gt h1 12 l0 3) l1 3) 51 (gt (pt h1 52 (gt h1 12 l0 3) l1 3) 12 l0 2) l1))) = k23 at hF ⊢
      refine ex_goto (q := 68) dX12_comesBack_45 (by decide) ?_
      exact ex_forget (lo' := [some (vr 12 l0), some (vi l1), some (vi l2), none, some (vi r1), none]) ⟨Or.inr rfl, Or.inr rfl, Or.inr rfl, Or.inl rfl, Or.inr rfl, Or.inl rfl, trivial⟩ (x_X12_comesBack_68 hF)
def F_X12_comesBack (l0 l1 l2 l3 : Int) (h : zH) : zO := F_X12_comesBack_0 l0 l1 l2 l3 h
theorem run_X12_comesBack {l0 l1 l2 l3 : Int} {h : zH} {r : Int} {h' : zH} (hF : F_X12_comesBack l0 l1 l2 l3 h = some (r, h')) : Run 1 yX12_comesBack cX12_comesBack 6 (some .boolean) [vr 12 l0, vi l1, vi l2, vi l3] h (some (vi r)) h' := run_of (M := M_X12_comesBack) (by decide) rfl (fun z => by cases z) (Nat.le_of_ble_eq_true rfl) (x_X12_comesBack_0 hF)
abbrev M_X12_giveBack : zM := (RX12, (cX12_giveBack, (4, ((some .boolean), false))))
def F_X12_giveBack_11b (ag11 : Int → Int → Int → Int → zH → zO) (l0 l1 l2 l3 : Int) (h : zH) : zO := if 0 ≤ l0 then (if gt h 12 l0 34 ≤ l3 then (if 0 ≤ gt h 12 l0 36 then (if 0 ≤ l1 ∧ l1 < 180 then (if gt h 76 (gt h 12 l0 36) l1 = 2 then (some (0, h)) else (if 0 ≤ gt h 12 l0 35 then (zb (F_X12_comesBack l0 (gt h 75 (gt h 12 l0 35) l1) l2 (gt h 12 l0 61) h) (fun r7 h7 => if r7 = 0 then (some (0, h7)) else (some (1, h7)))) else none)) else none) else none) else (if 0 ≤ gt h 12 l0 36 then (if 0 ≤ l3 ∧ l3 < 180 then (if gt h 76 (gt h 12 l0 36) l3 ≠ 2 then (ag11 l0 l1 l2 (wI (l3 + 1)) h) else (if 0 ≤ gt h 12 l0 37 then (if 0 ≤ gt h 12 l0 40 then (if 0 ≤ gt h 77 (gt h 12 l0 37) l3 ∧ gt h 77 (gt h 12 l0 37) l3 < 180 then (if gt h 80 (gt h 12 l0 40) (gt h 77 (gt h 12 l0 37) l3) ≠ 0 then (ag11 l0 l1 l2 (wI (l3 + 1)) h) else (ag11 l0 l1 l2 (wI (l3 + 1)) (pt h 80 (gt h 12 l0 40) l3 0))) else none) else none) else none)) else none) else none)) else none
set_option maxHeartbeats 1000000 in
theorem x_X12_giveBack_11b {ag11 : Int → Int → Int → Int → zH → zO} (hag11 : ∀ (l0 l1 l2 l3 : Int) (h : zH) (r : Int) (h' : zH), ag11 l0 l1 l2 l3 h = some (r, h') → Ex 2 M_X12_giveBack 11 [some (vr 12 l0), some (vi l1), some (vi l2), some (vi l3)] [] h (fun r1 h1 => r1 = some (vi r) ∧ h1 = h')) {l0 l1 l2 l3 : Int} {h : zH} {r : Int} {h' : zH} (hF : F_X12_giveBack_11b ag11 l0 l1 l2 l3 h = some (r, h')) : Ex 2 M_X12_giveBack 11 [some (vr 12 l0), some (vi l1), some (vi l2), some (vi l3)] [] h (fun r1 h1 => r1 = some (vi r) ∧ h1 = h') := by
  unfold F_X12_giveBack_11b at hF
  refine ex_iload_n (q := 12) dX12_giveBack_11 rfl rfl ?_
  refine ex_aload_n (q := 13) dX12_giveBack_12 rfl rfl ?_
  obtain ⟨g1, hF⟩ := zg hF
  refine ex_get (q := 16) (v := vi (gt h 12 l0 34)) 34 dX12_giveBack_13 rfl fl_X12_258 g1 rfl rfl ?_
  refine ex_icmp_ge (q := 19) (tgt := 56) dX12_giveBack_16 rfl (by decide) (fun c2 => ?_) (fun c2 => ?_)
  · have hF := ip c2 hF
    refine ex_aload_n (q := 57) dX12_giveBack_56 rfl rfl ?_
    refine ex_get (q := 60) (v := vr 76 (gt h 12 l0 36)) 36 dX12_giveBack_57 rfl fl_X12_90 g1 rfl rfl ?_
    refine ex_iload_n (q := 61) dX12_giveBack_60 rfl rfl ?_
    obtain ⟨g3, hF⟩ := zg hF
    obtain ⟨g4, hF⟩ := zg hF
    refine ex_iald (q := 62) dX12_giveBack_61 rfl kd_76 g3 g4.1 g4.2 ?_
    refine ex_iconst (q := 63) dX12_giveBack_62 rfl ⟨by decide, by decide⟩ ?_
    refine ex_icmp_eq (q := 66) (tgt := 88) dX12_giveBack_63 rfl (by decide) (fun c5 => ?_) (fun c5 => ?_)
    · have hF := ip c5 hF
      refine ex_iconst (q := 89) dX12_giveBack_88 rfl ⟨by decide, by decide⟩ ?_
      obtain ⟨rfl, rfl⟩ := zr hF
      exact ex_ret (some (vi 0)) rfl ⟨dX12_giveBack_89, Or.inr ⟨rfl, (by decide)⟩⟩ ⟨rfl, rfl⟩
    · have hF := im c5 hF
      refine ex_aload_n (q := 67) dX12_giveBack_66 rfl rfl ?_
      refine ex_aload_n (q := 68) dX12_giveBack_67 rfl rfl ?_
      refine ex_get (q := 71) (v := vr 75 (gt h 12 l0 35)) 35 dX12_giveBack_68 rfl fl_X12_87 g1 rfl rfl ?_
      refine ex_iload_n (q := 72) dX12_giveBack_71 rfl rfl ?_
      obtain ⟨g6, hF⟩ := zg hF
      refine ex_iald (q := 73) dX12_giveBack_72 rfl kd_75 g6 g4.1 g4.2 ?_
      refine ex_iload_n (q := 74) dX12_giveBack_73 rfl rfl ?_
      refine ex_aload_n (q := 75) dX12_giveBack_74 rfl rfl ?_
      refine ex_get (q := 78) (v := vi (gt h 12 l0 61)) 61 dX12_giveBack_75 rfl fl_X12_261 g1 rfl rfl ?_
      obtain ⟨r7, h7, e7, hF⟩ := zb_some hF
      refine ex_callV (d' := 1) (q := 81) (as := [vi (gt h 75 (gt h 12 l0 35) l1), vi l2, vi (gt h 12 l0 61)]) (st1 := [vi r7]) (r := (some (vi r7))) (h2 := h7) dX12_giveBack_78 rfl (run_X12_comesBack e7) mc_X12_comesBack mv_X12_comesBack ml_X12_264 (by decide) g1 rfl rfl (Nat.le_of_ble_eq_true rfl) rfl ?_
      refine ex_if_eq (q := 84) (tgt := 88) dX12_giveBack_81 rfl (by decide) (fun c8 => ?_) (fun c8 => ?_)
      · have hF := ip c8 hF
        refine ex_iconst (q := 89) dX12_giveBack_88 rfl ⟨by decide, by decide⟩ ?_
        obtain ⟨rfl, rfl⟩ := zr hF
        exact ex_ret (some (vi 0)) rfl ⟨dX12_giveBack_89, Or.inr ⟨rfl, (by decide)⟩⟩ ⟨rfl, rfl⟩
      · have hF := im c8 hF
        refine ex_iconst (q := 85) dX12_giveBack_84 rfl ⟨by decide, by decide⟩ ?_
        refine ex_goto (q := 89) dX12_giveBack_85 (by decide) ?_
        obtain ⟨rfl, rfl⟩ := zr hF
        exact ex_ret (some (vi 1)) rfl ⟨dX12_giveBack_89, Or.inr ⟨rfl, (by decide)⟩⟩ ⟨rfl, rfl⟩
  · have hF := im c2 hF
    refine ex_aload_n (q := 20) dX12_giveBack_19 rfl rfl ?_
    refine ex_get (q := 23) (v := vr 76 (gt h 12 l0 36)) 36 dX12_giveBack_20 rfl fl_X12_90 g1 rfl rfl ?_
    refine ex_iload_n (q := 24) dX12_giveBack_23 rfl rfl ?_
    obtain ⟨g9, hF⟩ := zg hF
    obtain ⟨g10, hF⟩ := zg hF
    refine ex_iald (q := 25) dX12_giveBack_24 rfl kd_76 g9 g10.1 g10.2 ?_
    refine ex_iconst (q := 26) dX12_giveBack_25 rfl ⟨by decide, by decide⟩ ?_
    refine ex_icmp_ne (q := 29) (tgt := 50) dX12_giveBack_26 rfl (by decide) (fun c11 => ?_) (fun c11 => ?_)
    · have hF := ip c11 hF
      refine ex_iinc (q := 53) (lo' := [some (vr 12 l0), some (vi l1), some (vi l2), some (vi (wI (l3 + 1)))]) dX12_giveBack_50 rfl rfl (by decide) rfl rfl ?_
      refine ex_goto (q := 11) dX12_giveBack_53 (by decide) ?_
      exact ex_forget (lo' := [some (vr 12 l0), some (vi l1), some (vi l2), some (vi (wI (l3 + 1)))]) ⟨Or.inr rfl, Or.inr rfl, Or.inr rfl, Or.inr rfl, trivial⟩ (hag11 _ _ _ _ _ _ _ hF)
    · have hF := im c11 hF
      refine ex_aload_n (q := 30) dX12_giveBack_29 rfl rfl ?_
      refine ex_get (q := 33) (v := vr 80 (gt h 12 l0 40)) 40 dX12_giveBack_30 rfl fl_X12_102 g1 rfl rfl ?_
      refine ex_aload_n (q := 34) dX12_giveBack_33 rfl rfl ?_
      refine ex_get (q := 37) (v := vr 77 (gt h 12 l0 37)) 37 dX12_giveBack_34 rfl fl_X12_93 g1 rfl rfl ?_
      refine ex_iload_n (q := 38) dX12_giveBack_37 rfl rfl ?_
      obtain ⟨g12, hF⟩ := zg hF
      refine ex_iald (q := 39) dX12_giveBack_38 rfl kd_77 g12 g10.1 g10.2 ?_
      obtain ⟨g13, hF⟩ := zg hF
      obtain ⟨g14, hF⟩ := zg hF
      refine ex_bald (q := 40) dX12_giveBack_39 rfl kd_80 g13 g14.1 g14.2 ?_
      refine ex_if_ne (q := 43) (tgt := 50) dX12_giveBack_40 rfl (by decide) (fun c15 => ?_) (fun c15 => ?_)
      · have hF := ip c15 hF
        refine ex_iinc (q := 53) (lo' := [some (vr 12 l0), some (vi l1), some (vi l2), some (vi (wI (l3 + 1)))]) dX12_giveBack_50 rfl rfl (by decide) rfl rfl ?_
        refine ex_goto (q := 11) dX12_giveBack_53 (by decide) ?_
        exact ex_forget (lo' := [some (vr 12 l0), some (vi l1), some (vi l2), some (vi (wI (l3 + 1)))]) ⟨Or.inr rfl, Or.inr rfl, Or.inr rfl, Or.inr rfl, trivial⟩ (hag11 _ _ _ _ _ _ _ hF)
      · have hF := im c15 hF
        refine ex_aload_n (q := 44) dX12_giveBack_43 rfl rfl ?_
        refine ex_get (q := 47) (v := vr 80 (gt h 12 l0 40)) 40 dX12_giveBack_44 rfl fl_X12_102 g1 rfl rfl ?_
        refine ex_iload_n (q := 48) dX12_giveBack_47 rfl rfl ?_
        refine ex_iconst (q := 49) dX12_giveBack_48 rfl ⟨by decide, by decide⟩ ?_
        refine ex_bast (q := 50) dX12_giveBack_49 rfl kd_80 g13 g10.1 g10.2 (by decide) ?_
        refine ex_iinc (q := 53) (lo' := [some (vr 12 l0), some (vi l1), some (vi l2), some (vi (wI (l3 + 1)))]) dX12_giveBack_50 rfl rfl (by decide) rfl rfl ?_
        refine ex_goto (q := 11) dX12_giveBack_53 (by decide) ?_
        exact ex_forget (lo' := [some (vr 12 l0), some (vi l1), some (vi l2), some (vi (wI (l3 + 1)))]) ⟨Or.inr rfl, Or.inr rfl, Or.inr rfl, Or.inr rfl, trivial⟩ (hag11 _ _ _ _ _ _ _ hF)
def F_X12_giveBack_11 : Nat → Int → Int → Int → Int → zH → zO
  | 0, _, _, _, _, _ => none
  | n + 1, l0, l1, l2, l3, h => F_X12_giveBack_11b (F_X12_giveBack_11 n) l0 l1 l2 l3 h
theorem x_X12_giveBack_11 : ∀ (n : Nat) (l0 l1 l2 l3 : Int) (h : zH) (r : Int) (h' : zH), F_X12_giveBack_11 n l0 l1 l2 l3 h = some (r, h') → Ex 2 M_X12_giveBack 11 [some (vr 12 l0), some (vi l1), some (vi l2), some (vi l3)] [] h (fun r1 h1 => r1 = some (vi r) ∧ h1 = h')
  | 0, _, _, _, _, _, _, _, hF => by cases hF
  | n + 1, _, _, _, _, _, _, _, hF => x_X12_giveBack_11b (x_X12_giveBack_11 n) hF
def F_X12_giveBack_0 (l0 l1 l2 : Int) (h : zH) : zO := if 0 ≤ l0 then (if 0 ≤ gt h 12 l0 40 then (if 0 ≤ l1 ∧ l1 < 180 then (F_X12_giveBack_11 zF l0 l1 l2 (wI (l1 + 1)) (pt h 80 (gt h 12 l0 40) l1 0)) else none) else none) else none
set_option maxHeartbeats 1000000 in
theorem x_X12_giveBack_0 {l0 l1 l2 : Int} {h : zH} {r : Int} {h' : zH} (hF : F_X12_giveBack_0 l0 l1 l2 h = some (r, h')) : Ex 2 M_X12_giveBack 0 [some (vr 12 l0), some (vi l1), some (vi l2), none] [] h (fun r1 h1 => r1 = some (vi r) ∧ h1 = h') := by
  unfold F_X12_giveBack_0 at hF
  refine ex_aload_n (q := 1) dX12_giveBack_0 rfl rfl ?_
  obtain ⟨g1, hF⟩ := zg hF
  refine ex_get (q := 4) (v := vr 80 (gt h 12 l0 40)) 40 dX12_giveBack_1 rfl fl_X12_102 g1 rfl rfl ?_
  refine ex_iload_n (q := 5) dX12_giveBack_4 rfl rfl ?_
  refine ex_iconst (q := 6) dX12_giveBack_5 rfl ⟨by decide, by decide⟩ ?_
  obtain ⟨g2, hF⟩ := zg hF
  obtain ⟨g3, hF⟩ := zg hF
  refine ex_bast (q := 7) dX12_giveBack_6 rfl kd_80 g2 g3.1 g3.2 (by decide) ?_
  refine ex_iload_n (q := 8) dX12_giveBack_7 rfl rfl ?_
  refine ex_iconst (q := 9) dX12_giveBack_8 rfl ⟨by decide, by decide⟩ ?_
  refine ex_iadd (q := 10) dX12_giveBack_9 rfl ?_
  refine ex_istore_n (q := 11) (lo' := [some (vr 12 l0), some (vi l1), some (vi l2), some (vi (wI (l1 + 1)))]) dX12_giveBack_10 rfl (by decide) rfl rfl ?_
  exact ex_forget (lo' := [some (vr 12 l0), some (vi l1), some (vi l2), some (vi (wI (l1 + 1)))]) ⟨Or.inr rfl, Or.inr rfl, Or.inr rfl, Or.inr rfl, trivial⟩ (x_X12_giveBack_11 _ _ _ _ _ _ _ _ hF)
def F_X12_giveBack (l0 l1 l2 : Int) (h : zH) : zO := F_X12_giveBack_0 l0 l1 l2 h
theorem run_X12_giveBack {l0 l1 l2 : Int} {h : zH} {r : Int} {h' : zH} (hF : F_X12_giveBack l0 l1 l2 h = some (r, h')) : Run 2 yX12_giveBack cX12_giveBack 4 (some .boolean) [vr 12 l0, vi l1, vi l2] h (some (vi r)) h' := run_of (M := M_X12_giveBack) (by decide) rfl (fun z => by cases z) (Nat.le_of_ble_eq_true rfl) (x_X12_giveBack_0 hF)
abbrev M_X12_spend : zM := (RX12, (cX12_spend, (4, (none, false))))
def F_X12_spend_43b (ag17 : Int → Int → zH → zO) (ag43 : Int → Int → Int → zH → zO) (l0 l1 l2 : Int) (h : zH) : zO := if l2 < 0 then (ag17 l0 (wI (l1 + (-1))) h) else (if 0 ≤ l0 then (zb (F_X12_giveBack l0 l2 2 h) (fun r2 h2 => if 0 ≤ gt h2 12 l0 28 then (if 0 ≤ l1 ∧ l1 < 150 then (zb (F_X12_lastOf l0 (gt h2 70 (gt h2 12 l0 28) l1) h2) (fun r6 h6 => ag43 l0 l1 r6 h6)) else none) else none)) else none)
set_option maxHeartbeats 1000000 in
theorem x_X12_spend_43b {ag17 : Int → Int → zH → zO} {ag43 : Int → Int → Int → zH → zO} (hag17 : ∀ (l0 l1 : Int) (h : zH) (r : Int) (h' : zH), ag17 l0 l1 h = some (r, h') → Ex 3 M_X12_spend 17 [some (vr 12 l0), some (vi l1), none, none] [] h (fun r1 h1 => r1 = none ∧ h1 = h')) (hag43 : ∀ (l0 l1 l2 : Int) (h : zH) (r : Int) (h' : zH), ag43 l0 l1 l2 h = some (r, h') → Ex 3 M_X12_spend 43 [some (vr 12 l0), some (vi l1), some (vi l2), none] [] h (fun r1 h1 => r1 = none ∧ h1 = h')) {l0 l1 l2 : Int} {h : zH} {r : Int} {h' : zH} (hF : F_X12_spend_43b ag17 ag43 l0 l1 l2 h = some (r, h')) : Ex 3 M_X12_spend 43 [some (vr 12 l0), some (vi l1), some (vi l2), none] [] h (fun r1 h1 => r1 = none ∧ h1 = h') := by
  unfold F_X12_spend_43b at hF
  refine ex_iload_n (q := 44) dX12_spend_43 rfl rfl ?_
  refine ex_if_lt (q := 47) (tgt := 68) dX12_spend_44 rfl (by decide) (fun c1 => ?_) (fun c1 => ?_)
  · have hF := ip c1 hF
    refine ex_iinc (q := 71) (lo' := [some (vr 12 l0), some (vi (wI (l1 + (-1)))), some (vi l2), none]) dX12_spend_68 rfl rfl (by decide) rfl rfl ?_
    refine ex_goto (q := 17) dX12_spend_71 (by decide) ?_
    exact ex_forget (lo' := [some (vr 12 l0), some (vi (wI (l1 + (-1)))), none, none]) ⟨Or.inr rfl, Or.inr rfl, Or.inl rfl, Or.inl rfl, trivial⟩ (hag17 _ _ _ _ _ hF)
  · have hF := im c1 hF
    refine ex_aload_n (q := 48) dX12_spend_47 rfl rfl ?_
    refine ex_iload_n (q := 49) dX12_spend_48 rfl rfl ?_
    refine ex_iconst (q := 50) dX12_spend_49 rfl ⟨by decide, by decide⟩ ?_
    obtain ⟨g3, hF⟩ := zg hF
    obtain ⟨r2, h2, e2, hF⟩ := zb_some hF
    refine ex_callV (d' := 2) (q := 53) (as := [vi l2, vi 2]) (st1 := [vi r2]) (r := (some (vi r2))) (h2 := h2) dX12_spend_50 rfl (run_X12_giveBack e2) mc_X12_giveBack mv_X12_giveBack ml_X12_278 (by decide) g3 rfl rfl (Nat.le_of_ble_eq_true rfl) rfl ?_
    refine ex_istore_n (q := 54) (lo' := [some (vr 12 l0), some (vi l1), some (vi l2), some (vi r2)]) dX12_spend_53 rfl (by decide) rfl rfl ?_
    refine ex_aload_n (q := 55) dX12_spend_54 rfl rfl ?_
    refine ex_aload_n (q := 56) dX12_spend_55 rfl rfl ?_
    refine ex_get (q := 59) (v := vr 70 (gt h2 12 l0 28)) 28 dX12_spend_56 rfl fl_X12_72 g3 rfl rfl ?_
    refine ex_iload_n (q := 60) dX12_spend_59 rfl rfl ?_
    obtain ⟨g4, hF⟩ := zg hF
    obtain ⟨g5, hF⟩ := zg hF
    refine ex_iald (q := 61) dX12_spend_60 rfl kd_70 g4 g5.1 g5.2 ?_
    obtain ⟨r6, h6, e6, hF⟩ := zb_some hF
    refine ex_callV (d' := 0) (q := 64) (as := [vi (gt h2 70 (gt h2 12 l0 28) l1)]) (st1 := [vi r6]) (r := (some (vi r6))) (h2 := h6) dX12_spend_61 rfl (run_X12_lastOf e6) mc_X12_lastOf mv_X12_lastOf ml_X12_274 (by decide) g3 rfl rfl (Nat.le_of_ble_eq_true rfl) rfl ?_
    refine ex_istore_n (q := 65) (lo' := [some (vr 12 l0), some (vi l1), some (vi r6), some (vi r2)]) dX12_spend_64 rfl (by decide) rfl rfl ?_
    refine ex_goto (q := 43) dX12_spend_65 (by decide) ?_
    exact ex_forget (lo' := [some (vr 12 l0), some (vi l1), some (vi r6), none]) ⟨Or.inr rfl, Or.inr rfl, Or.inr rfl, Or.inl rfl, trivial⟩ (hag43 _ _ _ _ _ _ hF)
def F_X12_spend_43 (ag17 : Int → Int → zH → zO) : Nat → Int → Int → Int → zH → zO
  | 0, _, _, _, _ => none
  | n + 1, l0, l1, l2, h => F_X12_spend_43b ag17 (F_X12_spend_43 ag17 n) l0 l1 l2 h
theorem x_X12_spend_43 {ag17 : Int → Int → zH → zO} (hag17 : ∀ (l0 l1 : Int) (h : zH) (r : Int) (h' : zH), ag17 l0 l1 h = some (r, h') → Ex 3 M_X12_spend 17 [some (vr 12 l0), some (vi l1), none, none] [] h (fun r1 h1 => r1 = none ∧ h1 = h')) : ∀ (n : Nat) (l0 l1 l2 : Int) (h : zH) (r : Int) (h' : zH), F_X12_spend_43 ag17 n l0 l1 l2 h = some (r, h') → Ex 3 M_X12_spend 43 [some (vr 12 l0), some (vi l1), some (vi l2), none] [] h (fun r1 h1 => r1 = none ∧ h1 = h')
  | 0, _, _, _, _, _, _, hF => by cases hF
  | n + 1, _, _, _, _, _, _, hF => x_X12_spend_43b hag17 (x_X12_spend_43 hag17 n) hF
def F_X12_spend_17b (ag17 : Int → Int → zH → zO) (l0 l1 : Int) (h : zH) : zO := if l1 < 0 then (if 0 ≤ l0 then (some (0, (pt h 12 l0 25 0))) else none) else (if 0 ≤ l0 then (if 0 ≤ gt h 12 l0 26 then (if 0 ≤ l1 ∧ l1 < 150 then (if gt h 68 (gt h 12 l0 26) l1 ≠ 12 then (ag17 l0 (wI (l1 + (-1))) h) else (if 0 ≤ gt h 12 l0 28 then (zb (F_X12_lastOf l0 (gt h 70 (gt h 12 l0 28) l1) h) (fun r8 h8 => F_X12_spend_43 ag17 zF l0 l1 r8 h8)) else none)) else none) else none) else none)
set_option maxHeartbeats 1000000 in
theorem x_X12_spend_17b {ag17 : Int → Int → zH → zO} (hag17 : ∀ (l0 l1 : Int) (h : zH) (r : Int) (h' : zH), ag17 l0 l1 h = some (r, h') → Ex 3 M_X12_spend 17 [some (vr 12 l0), some (vi l1), none, none] [] h (fun r1 h1 => r1 = none ∧ h1 = h')) {l0 l1 : Int} {h : zH} {r : Int} {h' : zH} (hF : F_X12_spend_17b ag17 l0 l1 h = some (r, h')) : Ex 3 M_X12_spend 17 [some (vr 12 l0), some (vi l1), none, none] [] h (fun r1 h1 => r1 = none ∧ h1 = h') := by
  unfold F_X12_spend_17b at hF
  refine ex_iload_n (q := 18) dX12_spend_17 rfl rfl ?_
  refine ex_if_lt (q := 21) (tgt := 74) dX12_spend_18 rfl (by decide) (fun c1 => ?_) (fun c1 => ?_)
  · have hF := ip c1 hF
    refine ex_aload_n (q := 75) dX12_spend_74 rfl rfl ?_
    refine ex_iconst (q := 76) dX12_spend_75 rfl ⟨by decide, by decide⟩ ?_
    obtain ⟨g2, hF⟩ := zg hF
    refine ex_put (q := 79) 25 dX12_spend_76 rfl fl_X12_217 (by decide) g2 rfl rfl (fun z => by cases z) ?_
    obtain ⟨rfl, rfl⟩ := zr hF
    exact ex_ret none rfl ⟨dX12_spend_79, rfl⟩ ⟨rfl, rfl⟩
  · have hF := im c1 hF
    refine ex_aload_n (q := 22) dX12_spend_21 rfl rfl ?_
    obtain ⟨g3, hF⟩ := zg hF
    refine ex_get (q := 25) (v := vr 68 (gt h 12 l0 26)) 26 dX12_spend_22 rfl fl_X12_66 g3 rfl rfl ?_
    refine ex_iload_n (q := 26) dX12_spend_25 rfl rfl ?_
    obtain ⟨g4, hF⟩ := zg hF
    obtain ⟨g5, hF⟩ := zg hF
    refine ex_iald (q := 27) dX12_spend_26 rfl kd_68 g4 g5.1 g5.2 ?_
    refine ex_bipush (q := 29) dX12_spend_27 rfl (by decide) ⟨by decide, by decide⟩ ?_
    refine ex_icmp_ne (q := 32) (tgt := 68) dX12_spend_29 rfl (by decide) (fun c6 => ?_) (fun c6 => ?_)
    · have hF := ip c6 hF
      refine ex_iinc (q := 71) (lo' := [some (vr 12 l0), some (vi (wI (l1 + (-1)))), none, none]) dX12_spend_68 rfl rfl (by decide) rfl rfl ?_
      refine ex_goto (q := 17) dX12_spend_71 (by decide) ?_
      exact ex_forget (lo' := [some (vr 12 l0), some (vi (wI (l1 + (-1)))), none, none]) ⟨Or.inr rfl, Or.inr rfl, Or.inl rfl, Or.inl rfl, trivial⟩ (hag17 _ _ _ _ _ hF)
    · have hF := im c6 hF
      refine ex_aload_n (q := 33) dX12_spend_32 rfl rfl ?_
      refine ex_aload_n (q := 34) dX12_spend_33 rfl rfl ?_
      refine ex_get (q := 37) (v := vr 70 (gt h 12 l0 28)) 28 dX12_spend_34 rfl fl_X12_72 g3 rfl rfl ?_
      refine ex_iload_n (q := 38) dX12_spend_37 rfl rfl ?_
      obtain ⟨g7, hF⟩ := zg hF
      refine ex_iald (q := 39) dX12_spend_38 rfl kd_70 g7 g5.1 g5.2 ?_
      obtain ⟨r8, h8, e8, hF⟩ := zb_some hF
      refine ex_callV (d' := 0) (q := 42) (as := [vi (gt h 70 (gt h 12 l0 28) l1)]) (st1 := [vi r8]) (r := (some (vi r8))) (h2 := h8) dX12_spend_39 rfl (run_X12_lastOf e8) mc_X12_lastOf mv_X12_lastOf ml_X12_274 (by decide) g3 rfl rfl (Nat.le_of_ble_eq_true rfl) rfl ?_
      refine ex_istore_n (q := 43) (lo' := [some (vr 12 l0), some (vi l1), some (vi r8), none]) dX12_spend_42 rfl (by decide) rfl rfl ?_
      exact ex_forget (lo' := [some (vr 12 l0), some (vi l1), some (vi r8), none]) ⟨Or.inr rfl, Or.inr rfl, Or.inr rfl, Or.inl rfl, trivial⟩ (x_X12_spend_43 hag17 _ _ _ _ _ _ _ hF)
def F_X12_spend_17 : Nat → Int → Int → zH → zO
  | 0, _, _, _ => none
  | n + 1, l0, l1, h => F_X12_spend_17b (F_X12_spend_17 n) l0 l1 h
theorem x_X12_spend_17 : ∀ (n : Nat) (l0 l1 : Int) (h : zH) (r : Int) (h' : zH), F_X12_spend_17 n l0 l1 h = some (r, h') → Ex 3 M_X12_spend 17 [some (vr 12 l0), some (vi l1), none, none] [] h (fun r1 h1 => r1 = none ∧ h1 = h')
  | 0, _, _, _, _, _, hF => by cases hF
  | n + 1, _, _, _, _, _, hF => x_X12_spend_17b (x_X12_spend_17 n) hF
def F_X12_spend_0 (l0 : Int) (h : zH) : zO := if 0 ≤ l0 then (F_X12_spend_17 zF l0 (wI ((gt (pt (pt h 12 l0 54 2) 12 l0 60 1) 12 l0 25) - 1)) (pt (pt h 12 l0 54 2) 12 l0 60 1)) else none
set_option maxHeartbeats 1000000 in
theorem x_X12_spend_0 {l0 : Int} {h : zH} {r : Int} {h' : zH} (hF : F_X12_spend_0 l0 h = some (r, h')) : Ex 3 M_X12_spend 0 [some (vr 12 l0), none, none, none] [] h (fun r1 h1 => r1 = none ∧ h1 = h') := by
  unfold F_X12_spend_0 at hF
  refine ex_aload_n (q := 1) dX12_spend_0 rfl rfl ?_
  refine ex_iconst (q := 2) dX12_spend_1 rfl ⟨by decide, by decide⟩ ?_
  obtain ⟨g1, hF⟩ := zg hF
  refine ex_put (q := 5) 54 dX12_spend_2 rfl fl_X12_267 (by decide) g1 rfl rfl (fun z => by cases z) ?_
  refine ex_aload_n (q := 6) dX12_spend_5 rfl rfl ?_
  refine ex_iconst (q := 7) dX12_spend_6 rfl ⟨by decide, by decide⟩ ?_
  refine ex_put (q := 10) 60 dX12_spend_7 rfl fl_X12_270 (by decide) g1 rfl rfl (fun _ => by decide) ?_
  refine ex_aload_n (q := 11) dX12_spend_10 rfl rfl ?_
  refine ex_get (q := 14) (v := vi (gt (pt (pt h 12 l0 54 2) 12 l0 60 1) 12 l0 25)) 25 dX12_spend_11 rfl fl_X12_217 g1 rfl rfl ?_
  refine ex_iconst (q := 15) dX12_spend_14 rfl ⟨by decide, by decide⟩ ?_
  refine ex_isub (q := 16) dX12_spend_15 rfl ?_
  refine ex_istore_n (q := 17) (lo' := [some (vr 12 l0), some (vi (wI ((gt (pt (pt h 12 l0 54 2) 12 l0 60 1) 12 l0 25) - 1))), none, none]) dX12_spend_16 rfl (by decide) rfl rfl ?_
  exact ex_forget (lo' := [some (vr 12 l0), some (vi (wI ((gt (pt (pt h 12 l0 54 2) 12 l0 60 1) 12 l0 25) - 1))), none, none]) ⟨Or.inr rfl, Or.inr rfl, Or.inl rfl, Or.inl rfl, trivial⟩ (x_X12_spend_17 _ _ _ _ _ _ hF)
def F_X12_spend (l0 : Int) (h : zH) : zO := F_X12_spend_0 l0 h
theorem run_X12_spend {l0 : Int} {h : zH} {r : Int} {h' : zH} (hF : F_X12_spend l0 h = some (r, h')) : Run 3 yX12_spend cX12_spend 4 none [vr 12 l0] h none h' := run_of (M := M_X12_spend) (by decide) rfl (fun z => by cases z) (Nat.le_of_ble_eq_true rfl) (x_X12_spend_0 hF)
abbrev M_X12_newFailure : zM := (RX12, (cX12_newFailure, (5, ((some .int), false))))
def F_X12_newFailure_0 (l0 l1 l2 l3 : Int) (h : zH) : zO := if 0 ≤ l0 then (if 0 ≤ gt h 12 l0 46 then (if 0 ≤ gt h 12 l0 45 ∧ gt h 12 l0 45 < 16 then (if 0 ≤ gt (pt h 83 (gt h 12 l0 46) (gt h 12 l0 45) l1) 12 l0 28 then (if 0 ≤ gt (pt h 83 (gt h 12 l0 46) (gt h 12 l0 45) l1) 12 l0 67 ∧ gt (pt h 83 (gt h 12 l0 46) (gt h 12 l0 45) l1) 12 l0 67 < 150 then (if 0 ≤ gt (pt h 83 (gt h 12 l0 46) (gt h 12 l0 45) l1) 12 l0 47 then (zl (pt (pt h 83 (gt h 12 l0 46) (gt h 12 l0 45) l1) 84 (gt (pt h 83 (gt h 12 l0 46) (gt h 12 l0 45) l1) 12 l0 47) (gt h 12 l0 45) (gt (pt h 83 (gt h 12 l0 46) (gt h 12 l0 45) l1) 70 (gt (pt h 83 (gt h 12 l0 46) (gt h 12 l0 45) l1) 12 l0 28) (gt (pt h 83 (gt h 12 l0 46) (gt h 12 l0 45) l1) 12 l0 67))) (fun k7 => if 0 ≤ gt k7 12 l0 48 then (if 0 ≤ gt (pt k7 85 (gt k7 12 l0 48) (gt h 12 l0 45) l2) 12 l0 49 then (zl (pt (pt k7 85 (gt k7 12 l0 48) (gt h 12 l0 45) l2) 86 (gt (pt k7 85 (gt k7 12 l0 48) (gt h 12 l0 45) l2) 12 l0 49) (gt h 12 l0 45) l3) (fun k10 => if 0 ≤ gt k10 12 l0 50 then (if 0 ≤ gt (pt k10 87 (gt k10 12 l0 50) (gt h 12 l0 45) (-1)) 12 l0 51 then (zl (pt (pt k10 87 (gt k10 12 l0 50) (gt h 12 l0 45) (-1)) 88 (gt (pt k10 87 (gt k10 12 l0 50) (gt h 12 l0 45) (-1)) 12 l0 51) (gt h 12 l0 45) (-1)) (fun k13 => some (gt h 12 l0 45, (pt k13 12 l0 45 (wI ((gt k13 12 l0 45) + 1)))))) else none) else none)) else none) else none)) else none) else none) else none) else none) else none) else none
set_option maxHeartbeats 1000000 in
theorem x_X12_newFailure_0 {l0 l1 l2 l3 : Int} {h : zH} {r : Int} {h' : zH} (hF : F_X12_newFailure_0 l0 l1 l2 l3 h = some (r, h')) : Ex 0 M_X12_newFailure 0 [some (vr 12 l0), some (vi l1), some (vi l2), some (vi l3), none] [] h (fun r1 h1 => r1 = some (vi r) ∧ h1 = h') := by
  unfold F_X12_newFailure_0 at hF
  refine ex_aload_n (q := 1) dX12_newFailure_0 rfl rfl ?_
  obtain ⟨g1, hF⟩ := zg hF
  refine ex_get (q := 4) (v := vi (gt h 12 l0 45)) 45 dX12_newFailure_1 rfl fl_X12_245 g1 rfl rfl ?_
  refine ex_istore (q := 6) (lo' := [some (vr 12 l0), some (vi l1), some (vi l2), some (vi l3), some (vi (gt h 12 l0 45))]) dX12_newFailure_4 rfl (by decide) rfl rfl ?_
  refine ex_aload_n (q := 7) dX12_newFailure_6 rfl rfl ?_
  refine ex_get (q := 10) (v := vr 83 (gt h 12 l0 46)) 46 dX12_newFailure_7 rfl fl_X12_111 g1 rfl rfl ?_
  refine ex_iload (q := 12) dX12_newFailure_10 rfl rfl ?_
  refine ex_iload_n (q := 13) dX12_newFailure_12 rfl rfl ?_
  obtain ⟨g2, hF⟩ := zg hF
  obtain ⟨g3, hF⟩ := zg hF
  refine ex_iast (q := 14) dX12_newFailure_13 rfl kd_83 g2 g3.1 g3.2 ?_
  refine ex_aload_n (q := 15) dX12_newFailure_14 rfl rfl ?_
  refine ex_get (q := 18) (v := vr 84 (gt (pt h 83 (gt h 12 l0 46) (gt h 12 l0 45) l1) 12 l0 47)) 47 dX12_newFailure_15 rfl fl_X12_114 g1 rfl rfl ?_
  refine ex_iload (q := 20) dX12_newFailure_18 rfl rfl ?_
  refine ex_aload_n (q := 21) dX12_newFailure_20 rfl rfl ?_
  refine ex_get (q := 24) (v := vr 70 (gt (pt h 83 (gt h 12 l0 46) (gt h 12 l0 45) l1) 12 l0 28)) 28 dX12_newFailure_21 rfl fl_X12_72 g1 rfl rfl ?_
  refine ex_aload_n (q := 25) dX12_newFailure_24 rfl rfl ?_
  refine ex_get (q := 28) (v := vi (gt (pt h 83 (gt h 12 l0 46) (gt h 12 l0 45) l1) 12 l0 67)) 67 dX12_newFailure_25 rfl fl_X12_220 g1 rfl rfl ?_
  obtain ⟨g4, hF⟩ := zg hF
  obtain ⟨g5, hF⟩ := zg hF
  refine ex_iald (q := 29) dX12_newFailure_28 rfl kd_70 g4 g5.1 g5.2 ?_
  obtain ⟨g6, hF⟩ := zg hF
  refine ex_iast (q := 30) dX12_newFailure_29 rfl kd_84 g6 g3.1 g3.2 ?_
  have hF := zl_e hF
  generalize pt (pt h 83 (gt h 12 l0 46) (gt h 12 l0 45) l1) 84 (gt (pt h 83 (gt h 12 l0 46) (gt h 12 l0 45) l1) 12 l0 47) (gt h 12 l0 45) (gt (pt h 83 (gt h 12 l0 46) (gt h 12 l0 45) l1) 70 (gt (pt h 83 (gt h 12 l0 46) (gt h 12 l0 45) l1) 12 l0 28) (gt (pt h 83 (gt h 12 l0 46) (gt h 12 l0 45) l1) 12 l0 67)) = k7 at hF ⊢
  refine ex_aload_n (q := 31) dX12_newFailure_30 rfl rfl ?_
  refine ex_get (q := 34) (v := vr 85 (gt k7 12 l0 48)) 48 dX12_newFailure_31 rfl fl_X12_117 g1 rfl rfl ?_
  refine ex_iload (q := 36) dX12_newFailure_34 rfl rfl ?_
  refine ex_iload_n (q := 37) dX12_newFailure_36 rfl rfl ?_
  obtain ⟨g8, hF⟩ := zg hF
  refine ex_iast (q := 38) dX12_newFailure_37 rfl kd_85 g8 g3.1 g3.2 ?_
  refine ex_aload_n (q := 39) dX12_newFailure_38 rfl rfl ?_
  refine ex_get (q := 42) (v := vr 86 (gt (pt k7 85 (gt k7 12 l0 48) (gt h 12 l0 45) l2) 12 l0 49)) 49 dX12_newFailure_39 rfl fl_X12_120 g1 rfl rfl ?_
  refine ex_iload (q := 44) dX12_newFailure_42 rfl rfl ?_
  refine ex_iload_n (q := 45) dX12_newFailure_44 rfl rfl ?_
  obtain ⟨g9, hF⟩ := zg hF
  refine ex_iast (q := 46) dX12_newFailure_45 rfl kd_86 g9 g3.1 g3.2 ?_
  have hF := zl_e hF
  generalize pt (pt k7 85 (gt k7 12 l0 48) (gt h 12 l0 45) l2) 86 (gt (pt k7 85 (gt k7 12 l0 48) (gt h 12 l0 45) l2) 12 l0 49) (gt h 12 l0 45) l3 = k10 at hF ⊢
  refine ex_aload_n (q := 47) dX12_newFailure_46 rfl rfl ?_
  refine ex_get (q := 50) (v := vr 87 (gt k10 12 l0 50)) 50 dX12_newFailure_47 rfl fl_X12_123 g1 rfl rfl ?_
  refine ex_iload (q := 52) dX12_newFailure_50 rfl rfl ?_
  refine ex_iconst (q := 53) dX12_newFailure_52 rfl ⟨by decide, by decide⟩ ?_
  obtain ⟨g11, hF⟩ := zg hF
  refine ex_iast (q := 54) dX12_newFailure_53 rfl kd_87 g11 g3.1 g3.2 ?_
  refine ex_aload_n (q := 55) dX12_newFailure_54 rfl rfl ?_
  refine ex_get (q := 58) (v := vr 88 (gt (pt k10 87 (gt k10 12 l0 50) (gt h 12 l0 45) (-1)) 12 l0 51)) 51 dX12_newFailure_55 rfl fl_X12_126 g1 rfl rfl ?_
  refine ex_iload (q := 60) dX12_newFailure_58 rfl rfl ?_
  refine ex_iconst (q := 61) dX12_newFailure_60 rfl ⟨by decide, by decide⟩ ?_
  obtain ⟨g12, hF⟩ := zg hF
  refine ex_iast (q := 62) dX12_newFailure_61 rfl kd_88 g12 g3.1 g3.2 ?_
  have hF := zl_e hF
  generalize pt (pt k10 87 (gt k10 12 l0 50) (gt h 12 l0 45) (-1)) 88 (gt (pt k10 87 (gt k10 12 l0 50) (gt h 12 l0 45) (-1)) 12 l0 51) (gt h 12 l0 45) (-1) = k13 at hF ⊢
  refine ex_aload_n (q := 63) dX12_newFailure_62 rfl rfl ?_
  refine ex_dup (q := 64) dX12_newFailure_63 rfl (fun _ z => by cases z) ?_
  refine ex_get (q := 67) (v := vi (gt k13 12 l0 45)) 45 dX12_newFailure_64 rfl fl_X12_245 g1 rfl rfl ?_
  refine ex_iconst (q := 68) dX12_newFailure_67 rfl ⟨by decide, by decide⟩ ?_
  refine ex_iadd (q := 69) dX12_newFailure_68 rfl ?_
  refine ex_put (q := 72) 45 dX12_newFailure_69 rfl fl_X12_245 (by decide) g1 rfl rfl (fun z => by cases z) ?_
  refine ex_iload (q := 74) dX12_newFailure_72 rfl rfl ?_
  obtain ⟨rfl, rfl⟩ := zr hF
  exact ex_ret (some (vi (gt h 12 l0 45))) rfl ⟨dX12_newFailure_74, Or.inl rfl⟩ ⟨rfl, rfl⟩
def F_X12_newFailure (l0 l1 l2 l3 : Int) (h : zH) : zO := F_X12_newFailure_0 l0 l1 l2 l3 h
theorem run_X12_newFailure {l0 l1 l2 l3 : Int} {h : zH} {r : Int} {h' : zH} (hF : F_X12_newFailure l0 l1 l2 l3 h = some (r, h')) : Run 0 yX12_newFailure cX12_newFailure 5 (some .int) [vr 12 l0, vi l1, vi l2, vi l3] h (some (vi r)) h' := run_of (M := M_X12_newFailure) (by decide) rfl (fun z => by cases z) (Nat.le_of_ble_eq_true rfl) (x_X12_newFailure_0 hF)
abbrev M_X12_endScope : zM := (RX12, (cX12_endScope, (4, (none, false))))
def F_X12_endScope_139 (l0 : Int) (h : zH) : zO := if 0 ≤ l0 then (if gt h 12 l0 60 ≠ 0 then (some (0, h)) else (some (0, (pt h 12 l0 25 (wI ((gt h 12 l0 25) - 1)))))) else none
set_option maxHeartbeats 1000000 in
theorem x_X12_endScope_139 {l0 : Int} {h : zH} {r : Int} {h' : zH} (hF : F_X12_endScope_139 l0 h = some (r, h')) : Ex 4 M_X12_endScope 139 [some (vr 12 l0), none, none, none] [] h (fun r1 h1 => r1 = none ∧ h1 = h') := by
  unfold F_X12_endScope_139 at hF
  refine ex_aload_n (q := 140) dX12_endScope_139 rfl rfl ?_
  obtain ⟨g1, hF⟩ := zg hF
  refine ex_get (q := 143) (v := vi (gt h 12 l0 60)) 60 dX12_endScope_140 rfl fl_X12_270 g1 rfl rfl ?_
  refine ex_if_ne (q := 146) (tgt := 156) dX12_endScope_143 rfl (by decide) (fun c2 => ?_) (fun c2 => ?_)
  · have hF := ip c2 hF
    obtain ⟨rfl, rfl⟩ := zr hF
    exact ex_ret none rfl ⟨dX12_endScope_156, rfl⟩ ⟨rfl, rfl⟩
  · have hF := im c2 hF
    refine ex_aload_n (q := 147) dX12_endScope_146 rfl rfl ?_
    refine ex_dup (q := 148) dX12_endScope_147 rfl (fun _ z => by cases z) ?_
    refine ex_get (q := 151) (v := vi (gt h 12 l0 25)) 25 dX12_endScope_148 rfl fl_X12_217 g1 rfl rfl ?_
    refine ex_iconst (q := 152) dX12_endScope_151 rfl ⟨by decide, by decide⟩ ?_
    refine ex_isub (q := 153) dX12_endScope_152 rfl ?_
    refine ex_put (q := 156) 25 dX12_endScope_153 rfl fl_X12_217 (by decide) g1 rfl rfl (fun z => by cases z) ?_
    obtain ⟨rfl, rfl⟩ := zr hF
    exact ex_ret none rfl ⟨dX12_endScope_156, rfl⟩ ⟨rfl, rfl⟩
def F_X12_endScope_119 (ag28 : Int → Int → Int → zH → zO) (l0 l1 : Int) (h : zH) : zO := if 0 ≤ l0 then (if gt h 12 l0 60 = 0 then (zb (F_X12_lastOf l0 l1 h) (fun r3 h3 => ag28 l0 l1 r3 h3)) else (ag28 l0 l1 (-1) h)) else none
set_option maxHeartbeats 1000000 in
theorem x_X12_endScope_119 {ag28 : Int → Int → Int → zH → zO} (hag28 : ∀ (l0 l1 l2 : Int) (h : zH) (r : Int) (h' : zH), ag28 l0 l1 l2 h = some (r, h') → Ex 4 M_X12_endScope 28 [some (vr 12 l0), some (vi l1), some (vi l2), none] [] h (fun r1 h1 => r1 = none ∧ h1 = h')) {l0 l1 : Int} {h : zH} {r : Int} {h' : zH} (hF : F_X12_endScope_119 ag28 l0 l1 h = some (r, h')) : Ex 4 M_X12_endScope 119 [some (vr 12 l0), some (vi l1), none, none] [] h (fun r1 h1 => r1 = none ∧ h1 = h') := by
  unfold F_X12_endScope_119 at hF
  refine ex_aload_n (q := 120) dX12_endScope_119 rfl rfl ?_
  obtain ⟨g1, hF⟩ := zg hF
  refine ex_get (q := 123) (v := vi (gt h 12 l0 60)) 60 dX12_endScope_120 rfl fl_X12_270 g1 rfl rfl ?_
  refine ex_if_eq (q := 126) (tgt := 130) dX12_endScope_123 rfl (by decide) (fun c2 => ?_) (fun c2 => ?_)
  · have hF := ip c2 hF
    refine ex_aload_n (q := 131) dX12_endScope_130 rfl rfl ?_
    refine ex_iload_n (q := 132) dX12_endScope_131 rfl rfl ?_
    obtain ⟨r3, h3, e3, hF⟩ := zb_some hF
    refine ex_callV (d' := 0) (q := 135) (as := [vi l1]) (st1 := [vi r3]) (r := (some (vi r3))) (h2 := h3) dX12_endScope_132 rfl (run_X12_lastOf e3) mc_X12_lastOf mv_X12_lastOf ml_X12_274 (by decide) g1 rfl rfl (Nat.le_of_ble_eq_true rfl) rfl ?_
    refine ex_istore_n (q := 136) (lo' := [some (vr 12 l0), some (vi l1), some (vi r3), none]) dX12_endScope_135 rfl (by decide) rfl rfl ?_
    refine ex_goto (q := 28) dX12_endScope_136 (by decide) ?_
    exact ex_forget (lo' := [some (vr 12 l0), some (vi l1), some (vi r3), none]) ⟨Or.inr rfl, Or.inr rfl, Or.inr rfl, Or.inl rfl, trivial⟩ (hag28 _ _ _ _ _ _ hF)
  · have hF := im c2 hF
    refine ex_iconst (q := 127) dX12_endScope_126 rfl ⟨by decide, by decide⟩ ?_
    refine ex_goto (q := 135) dX12_endScope_127 (by decide) ?_
    refine ex_istore_n (q := 136) (lo' := [some (vr 12 l0), some (vi l1), some (vi (-1)), none]) dX12_endScope_135 rfl (by decide) rfl rfl ?_
    refine ex_goto (q := 28) dX12_endScope_136 (by decide) ?_
    exact ex_forget (lo' := [some (vr 12 l0), some (vi l1), some (vi (-1)), none]) ⟨Or.inr rfl, Or.inr rfl, Or.inr rfl, Or.inl rfl, trivial⟩ (hag28 _ _ _ _ _ _ hF)
def F_X12_endScope_28b (ag28 : Int → Int → Int → zH → zO) (l0 l1 l2 : Int) (h : zH) : zO := if l2 < 0 then (F_X12_endScope_139 l0 h) else (if 0 ≤ l0 then (if gt h 12 l0 60 ≠ 0 then (F_X12_endScope_139 l0 h) else (zb (F_X12_giveBack l0 l2 1 h) (fun r4 h4 => if r4 = 0 then (F_X12_endScope_119 ag28 l0 l1 h4) else (if gt h4 12 l0 45 ≠ 16 then (if 0 ≤ gt h4 12 l0 27 then (if 0 ≤ wI ((gt h4 12 l0 25) - 1) ∧ wI ((gt h4 12 l0 25) - 1) < 150 then (if 0 ≤ gt h4 12 l0 35 then (if 0 ≤ l2 ∧ l2 < 180 then (zb (F_X12_newFailure l0 6 (gt h4 69 (gt h4 12 l0 27) (wI ((gt h4 12 l0 25) - 1))) (gt h4 75 (gt h4 12 l0 35) l2) h4) (fun r11 h11 => if gt h11 12 l0 52 ≠ 3 then (F_X12_endScope_119 ag28 l0 l1 (pt (pt h11 12 l0 52 3) 12 l0 53 r11)) else (if 0 ≤ gt h11 12 l0 51 then (if 0 ≤ r11 ∧ r11 < 16 then (F_X12_endScope_119 ag28 l0 l1 (pt h11 88 (gt h11 12 l0 51) r11 (gt h11 12 l0 53))) else none) else none))) else none) else none) else none) else none) else (zb (F_X12_spend l0 h4) (fun r15 h15 => F_X12_endScope_119 ag28 l0 l1 h15)))))) else none)
set_option maxHeartbeats 1000000 in
theorem x_X12_endScope_28b {ag28 : Int → Int → Int → zH → zO} (hag28 : ∀ (l0 l1 l2 : Int) (h : zH) (r : Int) (h' : zH), ag28 l0 l1 l2 h = some (r, h') → Ex 4 M_X12_endScope 28 [some (vr 12 l0), some (vi l1), some (vi l2), none] [] h (fun r1 h1 => r1 = none ∧ h1 = h')) {l0 l1 l2 : Int} {h : zH} {r : Int} {h' : zH} (hF : F_X12_endScope_28b ag28 l0 l1 l2 h = some (r, h')) : Ex 4 M_X12_endScope 28 [some (vr 12 l0), some (vi l1), some (vi l2), none] [] h (fun r1 h1 => r1 = none ∧ h1 = h') := by
  unfold F_X12_endScope_28b at hF
  refine ex_iload_n (q := 29) dX12_endScope_28 rfl rfl ?_
  refine ex_if_lt (q := 32) (tgt := 139) dX12_endScope_29 rfl (by decide) (fun c1 => ?_) (fun c1 => ?_)
  · have hF := ip c1 hF
    exact ex_forget (lo' := [some (vr 12 l0), none, none, none]) ⟨Or.inr rfl, Or.inl rfl, Or.inl rfl, Or.inl rfl, trivial⟩ (x_X12_endScope_139 hF)
  · have hF := im c1 hF
    refine ex_aload_n (q := 33) dX12_endScope_32 rfl rfl ?_
    obtain ⟨g2, hF⟩ := zg hF
    refine ex_get (q := 36) (v := vi (gt h 12 l0 60)) 60 dX12_endScope_33 rfl fl_X12_270 g2 rfl rfl ?_
    refine ex_if_ne (q := 39) (tgt := 139) dX12_endScope_36 rfl (by decide) (fun c3 => ?_) (fun c3 => ?_)
    · have hF := ip c3 hF
      exact ex_forget (lo' := [some (vr 12 l0), none, none, none]) ⟨Or.inr rfl, Or.inl rfl, Or.inl rfl, Or.inl rfl, trivial⟩ (x_X12_endScope_139 hF)
    · have hF := im c3 hF
      refine ex_aload_n (q := 40) dX12_endScope_39 rfl rfl ?_
      refine ex_iload_n (q := 41) dX12_endScope_40 rfl rfl ?_
      refine ex_iconst (q := 42) dX12_endScope_41 rfl ⟨by decide, by decide⟩ ?_
      obtain ⟨r4, h4, e4, hF⟩ := zb_some hF
      refine ex_callV (d' := 2) (q := 45) (as := [vi l2, vi 1]) (st1 := [vi r4]) (r := (some (vi r4))) (h2 := h4) dX12_endScope_42 rfl (run_X12_giveBack e4) mc_X12_giveBack mv_X12_giveBack ml_X12_278 (by decide) g2 rfl rfl (Nat.le_of_ble_eq_true rfl) rfl ?_
      refine ex_if_eq (q := 48) (tgt := 119) dX12_endScope_45 rfl (by decide) (fun c5 => ?_) (fun c5 => ?_)
      · have hF := ip c5 hF
        exact ex_forget (lo' := [some (vr 12 l0), some (vi l1), none, none]) ⟨Or.inr rfl, Or.inr rfl, Or.inl rfl, Or.inl rfl, trivial⟩ (x_X12_endScope_119 hag28 hF)
      · have hF := im c5 hF
        refine ex_aload_n (q := 49) dX12_endScope_48 rfl rfl ?_
        refine ex_get (q := 52) (v := vi (gt h4 12 l0 45)) 45 dX12_endScope_49 rfl fl_X12_245 g2 rfl rfl ?_
        refine ex_bipush (q := 54) dX12_endScope_52 rfl (by decide) ⟨by decide, by decide⟩ ?_
        refine ex_icmp_ne (q := 57) (tgt := 64) dX12_endScope_54 rfl (by decide) (fun c6 => ?_) (fun c6 => ?_)
        · have hF := ip c6 hF
          refine ex_aload_n (q := 65) dX12_endScope_64 rfl rfl ?_
          refine ex_bipush (q := 67) dX12_endScope_65 rfl (by decide) ⟨by decide, by decide⟩ ?_
          refine ex_aload_n (q := 68) dX12_endScope_67 rfl rfl ?_
          refine ex_get (q := 71) (v := vr 69 (gt h4 12 l0 27)) 27 dX12_endScope_68 rfl fl_X12_69 g2 rfl rfl ?_
          refine ex_aload_n (q := 72) dX12_endScope_71 rfl rfl ?_
          refine ex_get (q := 75) (v := vi (gt h4 12 l0 25)) 25 dX12_endScope_72 rfl fl_X12_217 g2 rfl rfl ?_
          refine ex_iconst (q := 76) dX12_endScope_75 rfl ⟨by decide, by decide⟩ ?_
          refine ex_isub (q := 77) dX12_endScope_76 rfl ?_
          obtain ⟨g7, hF⟩ := zg hF
          obtain ⟨g8, hF⟩ := zg hF
          refine ex_iald (q := 78) dX12_endScope_77 rfl kd_69 g7 g8.1 g8.2 ?_
          refine ex_aload_n (q := 79) dX12_endScope_78 rfl rfl ?_
          refine ex_get (q := 82) (v := vr 75 (gt h4 12 l0 35)) 35 dX12_endScope_79 rfl fl_X12_87 g2 rfl rfl ?_
          refine ex_iload_n (q := 83) dX12_endScope_82 rfl rfl ?_
          obtain ⟨g9, hF⟩ := zg hF
          obtain ⟨g10, hF⟩ := zg hF
          refine ex_iald (q := 84) dX12_endScope_83 rfl kd_75 g9 g10.1 g10.2 ?_
          obtain ⟨r11, h11, e11, hF⟩ := zb_some hF
          refine ex_callV (d' := 0) (q := 87) (as := [vi 6, vi (gt h4 69 (gt h4 12 l0 27) (wI ((gt h4 12 l0 25) - 1))), vi (gt h4 75 (gt h4 12 l0 35) l2)]) (st1 := [vi r11]) (r := (some (vi r11))) (h2 := h11) dX12_endScope_84 rfl (run_X12_newFailure e11) mc_X12_newFailure mv_X12_newFailure ml_X12_248 (by decide) g2 rfl rfl (Nat.le_of_ble_eq_true rfl) rfl ?_
          refine ex_istore_n (q := 88) (lo' := [some (vr 12 l0), some (vi l1), some (vi l2), some (vi r11)]) dX12_endScope_87 rfl (by decide) rfl rfl ?_
          refine ex_aload_n (q := 89) dX12_endScope_88 rfl rfl ?_
          refine ex_get (q := 92) (v := vi (gt h11 12 l0 52)) 52 dX12_endScope_89 rfl fl_X12_255 g2 rfl rfl ?_
          refine ex_iconst (q := 93) dX12_endScope_92 rfl ⟨by decide, by decide⟩ ?_
          refine ex_icmp_ne (q := 96) (tgt := 109) dX12_endScope_93 rfl (by decide) (fun c12 => ?_) (fun c12 => ?_)
          · have hF := ip c12 hF
            refine ex_aload_n (q := 110) dX12_endScope_109 rfl rfl ?_
            refine ex_iconst (q := 111) dX12_endScope_110 rfl ⟨by decide, by decide⟩ ?_
            refine ex_put (q := 114) 52 dX12_endScope_111 rfl fl_X12_255 (by decide) g2 rfl rfl (fun z => by cases z) ?_
            refine ex_aload_n (q := 115) dX12_endScope_114 rfl rfl ?_
            refine ex_iload_n (q := 116) dX12_endScope_115 rfl rfl ?_
            refine ex_put (q := 119) 53 dX12_endScope_116 rfl fl_X12_252 (by decide) g2 rfl rfl (fun z => by cases z) ?_
            exact ex_forget (lo' := [some (vr 12 l0), some (vi l1), none, none]) ⟨Or.inr rfl, Or.inr rfl, Or.inl rfl, Or.inl rfl, trivial⟩ (x_X12_endScope_119 hag28 hF)
          · have hF := im c12 hF
            refine ex_aload_n (q := 97) dX12_endScope_96 rfl rfl ?_
            refine ex_get (q := 100) (v := vr 88 (gt h11 12 l0 51)) 51 dX12_endScope_97 rfl fl_X12_126 g2 rfl rfl ?_
            refine ex_iload_n (q := 101) dX12_endScope_100 rfl rfl ?_
            refine ex_aload_n (q := 102) dX12_endScope_101 rfl rfl ?_
            refine ex_get (q := 105) (v := vi (gt h11 12 l0 53)) 53 dX12_endScope_102 rfl fl_X12_252 g2 rfl rfl ?_
            obtain ⟨g13, hF⟩ := zg hF
            obtain ⟨g14, hF⟩ := zg hF
            refine ex_iast (q := 106) dX12_endScope_105 rfl kd_88 g13 g14.1 g14.2 ?_
            refine ex_goto (q := 119) dX12_endScope_106 (by decide) ?_
            exact ex_forget (lo' := [some (vr 12 l0), some (vi l1), none, none]) ⟨Or.inr rfl, Or.inr rfl, Or.inl rfl, Or.inl rfl, trivial⟩ (x_X12_endScope_119 hag28 hF)
        · have hF := im c6 hF
          refine ex_aload_n (q := 58) dX12_endScope_57 rfl rfl ?_
          obtain ⟨r15, h15, e15, hF⟩ := zb_some hF
          refine ex_callV (d' := 3) (q := 61) (as := []) (st1 := []) (r := none) (h2 := h15) dX12_endScope_58 rfl (run_X12_spend e15) mc_X12_spend mv_X12_spend ml_X12_242 (by decide) g2 rfl rfl (Nat.le_of_ble_eq_true rfl) rfl ?_
          refine ex_goto (q := 119) dX12_endScope_61 (by decide) ?_
          exact ex_forget (lo' := [some (vr 12 l0), some (vi l1), none, none]) ⟨Or.inr rfl, Or.inr rfl, Or.inl rfl, Or.inl rfl, trivial⟩ (x_X12_endScope_119 hag28 hF)
def F_X12_endScope_28 : Nat → Int → Int → Int → zH → zO
  | 0, _, _, _, _ => none
  | n + 1, l0, l1, l2, h => F_X12_endScope_28b (F_X12_endScope_28 n) l0 l1 l2 h
theorem x_X12_endScope_28 : ∀ (n : Nat) (l0 l1 l2 : Int) (h : zH) (r : Int) (h' : zH), F_X12_endScope_28 n l0 l1 l2 h = some (r, h') → Ex 4 M_X12_endScope 28 [some (vr 12 l0), some (vi l1), some (vi l2), none] [] h (fun r1 h1 => r1 = none ∧ h1 = h')
  | 0, _, _, _, _, _, _, hF => by cases hF
  | n + 1, _, _, _, _, _, _, hF => x_X12_endScope_28b (x_X12_endScope_28 n) hF
def F_X12_endScope_0 (l0 : Int) (h : zH) : zO := if 0 ≤ l0 then (if 0 ≤ gt h 12 l0 28 then (if 0 ≤ wI ((gt h 12 l0 25) - 1) ∧ wI ((gt h 12 l0 25) - 1) < 150 then (zb (F_X12_lastOf l0 (gt h 70 (gt h 12 l0 28) (wI ((gt h 12 l0 25) - 1))) (pt h 12 l0 57 (wI ((gt h 12 l0 57) + 1)))) (fun r4 h4 => F_X12_endScope_28 zF l0 (gt h 70 (gt h 12 l0 28) (wI ((gt h 12 l0 25) - 1))) r4 h4)) else none) else none) else none
set_option maxHeartbeats 1000000 in
theorem x_X12_endScope_0 {l0 : Int} {h : zH} {r : Int} {h' : zH} (hF : F_X12_endScope_0 l0 h = some (r, h')) : Ex 4 M_X12_endScope 0 [some (vr 12 l0), none, none, none] [] h (fun r1 h1 => r1 = none ∧ h1 = h') := by
  unfold F_X12_endScope_0 at hF
  refine ex_aload_n (q := 1) dX12_endScope_0 rfl rfl ?_
  obtain ⟨g1, hF⟩ := zg hF
  refine ex_get (q := 4) (v := vr 70 (gt h 12 l0 28)) 28 dX12_endScope_1 rfl fl_X12_72 g1 rfl rfl ?_
  refine ex_aload_n (q := 5) dX12_endScope_4 rfl rfl ?_
  refine ex_get (q := 8) (v := vi (gt h 12 l0 25)) 25 dX12_endScope_5 rfl fl_X12_217 g1 rfl rfl ?_
  refine ex_iconst (q := 9) dX12_endScope_8 rfl ⟨by decide, by decide⟩ ?_
  refine ex_isub (q := 10) dX12_endScope_9 rfl ?_
  obtain ⟨g2, hF⟩ := zg hF
  obtain ⟨g3, hF⟩ := zg hF
  refine ex_iald (q := 11) dX12_endScope_10 rfl kd_70 g2 g3.1 g3.2 ?_
  refine ex_istore_n (q := 12) (lo' := [some (vr 12 l0), some (vi (gt h 70 (gt h 12 l0 28) (wI ((gt h 12 l0 25) - 1)))), none, none]) dX12_endScope_11 rfl (by decide) rfl rfl ?_
  refine ex_aload_n (q := 13) dX12_endScope_12 rfl rfl ?_
  refine ex_dup (q := 14) dX12_endScope_13 rfl (fun _ z => by cases z) ?_
  refine ex_get (q := 17) (v := vi (gt h 12 l0 57)) 57 dX12_endScope_14 rfl fl_X12_281 g1 rfl rfl ?_
  refine ex_iconst (q := 18) dX12_endScope_17 rfl ⟨by decide, by decide⟩ ?_
  refine ex_iadd (q := 19) dX12_endScope_18 rfl ?_
  refine ex_put (q := 22) 57 dX12_endScope_19 rfl fl_X12_281 (by decide) g1 rfl rfl (fun z => by cases z) ?_
  refine ex_aload_n (q := 23) dX12_endScope_22 rfl rfl ?_
  refine ex_iload_n (q := 24) dX12_endScope_23 rfl rfl ?_
  obtain ⟨r4, h4, e4, hF⟩ := zb_some hF
  refine ex_callV (d' := 0) (q := 27) (as := [vi (gt h 70 (gt h 12 l0 28) (wI ((gt h 12 l0 25) - 1)))]) (st1 := [vi r4]) (r := (some (vi r4))) (h2 := h4) dX12_endScope_24 rfl (run_X12_lastOf e4) mc_X12_lastOf mv_X12_lastOf ml_X12_274 (by decide) g1 rfl rfl (Nat.le_of_ble_eq_true rfl) rfl ?_
  refine ex_istore_n (q := 28) (lo' := [some (vr 12 l0), some (vi (gt h 70 (gt h 12 l0 28) (wI ((gt h 12 l0 25) - 1)))), some (vi r4), none]) dX12_endScope_27 rfl (by decide) rfl rfl ?_
  exact ex_forget (lo' := [some (vr 12 l0), some (vi (gt h 70 (gt h 12 l0 28) (wI ((gt h 12 l0 25) - 1)))), some (vi r4), none]) ⟨Or.inr rfl, Or.inr rfl, Or.inr rfl, Or.inl rfl, trivial⟩ (x_X12_endScope_28 _ _ _ _ _ _ _ hF)
def F_X12_endScope (l0 : Int) (h : zH) : zO := F_X12_endScope_0 l0 h
theorem run_X12_endScope {l0 : Int} {h : zH} {r : Int} {h' : zH} (hF : F_X12_endScope l0 h = some (r, h')) : Run 4 yX12_endScope cX12_endScope 4 none [vr 12 l0] h none h' := run_of (M := M_X12_endScope) (by decide) rfl (fun z => by cases z) (Nat.le_of_ble_eq_true rfl) (x_X12_endScope_0 hF)
abbrev M_X12_step : zM := (RX12, (cX12_step, (1, ((some .boolean), false))))
def F_X12_step_0 (l0 : Int) (h : zH) : zO := if 0 ≤ l0 then (if gt h 12 l0 55 ≠ 160 then (some (1, (pt h 12 l0 55 (wI ((gt h 12 l0 55) + 1))))) else (zb (F_X12_spend l0 h) (fun r3 h3 => some (0, h3)))) else none
set_option maxHeartbeats 1000000 in
theorem x_X12_step_0 {l0 : Int} {h : zH} {r : Int} {h' : zH} (hF : F_X12_step_0 l0 h = some (r, h')) : Ex 4 M_X12_step 0 [some (vr 12 l0)] [] h (fun r1 h1 => r1 = some (vi r) ∧ h1 = h') := by
  unfold F_X12_step_0 at hF
  refine ex_aload_n (q := 1) dX12_step_0 rfl rfl ?_
  obtain ⟨g1, hF⟩ := zg hF
  refine ex_get (q := 4) (v := vi (gt h 12 l0 55)) 55 dX12_step_1 rfl fl_X12_239 g1 rfl rfl ?_
  refine ex_sipush (q := 7) dX12_step_4 rfl (by decide) ⟨by decide, by decide⟩ ?_
  refine ex_icmp_ne (q := 10) (tgt := 16) dX12_step_7 rfl (by decide) (fun c2 => ?_) (fun c2 => ?_)
  · have hF := ip c2 hF
    refine ex_aload_n (q := 17) dX12_step_16 rfl rfl ?_
    refine ex_dup (q := 18) dX12_step_17 rfl (fun _ z => by cases z) ?_
    refine ex_get (q := 21) (v := vi (gt h 12 l0 55)) 55 dX12_step_18 rfl fl_X12_239 g1 rfl rfl ?_
    refine ex_iconst (q := 22) dX12_step_21 rfl ⟨by decide, by decide⟩ ?_
    refine ex_iadd (q := 23) dX12_step_22 rfl ?_
    refine ex_put (q := 26) 55 dX12_step_23 rfl fl_X12_239 (by decide) g1 rfl rfl (fun z => by cases z) ?_
    refine ex_iconst (q := 27) dX12_step_26 rfl ⟨by decide, by decide⟩ ?_
    obtain ⟨rfl, rfl⟩ := zr hF
    exact ex_ret (some (vi 1)) rfl ⟨dX12_step_27, Or.inr ⟨rfl, (by decide)⟩⟩ ⟨rfl, rfl⟩
  · have hF := im c2 hF
    refine ex_aload_n (q := 11) dX12_step_10 rfl rfl ?_
    obtain ⟨r3, h3, e3, hF⟩ := zb_some hF
    refine ex_callV (d' := 3) (q := 14) (as := []) (st1 := []) (r := none) (h2 := h3) dX12_step_11 rfl (run_X12_spend e3) mc_X12_spend mv_X12_spend ml_X12_242 (by decide) g1 rfl rfl (Nat.le_of_ble_eq_true rfl) rfl ?_
    refine ex_iconst (q := 15) dX12_step_14 rfl ⟨by decide, by decide⟩ ?_
    obtain ⟨rfl, rfl⟩ := zr hF
    exact ex_ret (some (vi 0)) rfl ⟨dX12_step_15, Or.inr ⟨rfl, (by decide)⟩⟩ ⟨rfl, rfl⟩
def F_X12_step (l0 : Int) (h : zH) : zO := F_X12_step_0 l0 h
theorem run_X12_step {l0 : Int} {h : zH} {r : Int} {h' : zH} (hF : F_X12_step l0 h = some (r, h')) : Run 4 yX12_step cX12_step 1 (some .boolean) [vr 12 l0] h (some (vi r)) h' := run_of (M := M_X12_step) (by decide) rfl (fun z => by cases z) (Nat.le_of_ble_eq_true rfl) (x_X12_step_0 hF)
abbrev M_X12_endBlock : zM := (RX12, (cX12_endBlock, (3, (none, false))))
def F_X12_endBlock_0 (l0 l1 : Int) (h : zH) : zO := if 0 ≤ l0 then (zb (F_X12_goTo l0 (wI (l1 + 1)) h) (fun r2 h2 => if 0 ≤ gt h2 12 l0 26 then (if 0 ≤ wI ((gt h 12 l0 25) - 1) ∧ wI ((gt h 12 l0 25) - 1) < 150 then (if gt h2 68 (gt h2 12 l0 26) (wI ((gt h 12 l0 25) - 1)) ≠ 12 then (if gt h2 68 (gt h2 12 l0 26) (wI ((gt h 12 l0 25) - 1)) ≠ 11 then (if 0 ≤ gt h2 12 l0 28 then (if gt h2 70 (gt h2 12 l0 28) (wI ((gt h 12 l0 25) - 1)) ≠ 2 then (if 0 ≤ gt (pt h2 12 l0 52 0) 12 l0 28 then (if gt (pt h2 12 l0 52 0) 70 (gt (pt h2 12 l0 52 0) 12 l0 28) (wI ((gt h 12 l0 25) - 1)) ≠ 2 then (zl (pt (pt (pt h2 12 l0 52 0) 12 l0 53 (gt (pt h2 12 l0 52 0) 12 l0 53)) 12 l0 25 (wI ((gt (pt (pt h2 12 l0 52 0) 12 l0 53 (gt (pt h2 12 l0 52 0) 12 l0 53)) 12 l0 25) - 1))) (fun k11 => some (0, k11))) else (if 0 ≤ gt (pt h2 12 l0 52 0) 12 l0 31 then (zl (pt (pt (pt h2 12 l0 52 0) 12 l0 53 (gt (pt h2 12 l0 52 0) 73 (gt (pt h2 12 l0 52 0) 12 l0 31) (wI ((gt h 12 l0 25) - 1)))) 12 l0 25 (wI ((gt (pt (pt h2 12 l0 52 0) 12 l0 53 (gt (pt h2 12 l0 52 0) 73 (gt (pt h2 12 l0 52 0) 12 l0 31) (wI ((gt h 12 l0 25) - 1)))) 12 l0 25) - 1))) (fun k13 => some (0, k13))) else none)) else none) else (if 0 ≤ gt h2 12 l0 29 then (if 0 ≤ gt (pt h2 12 l0 52 (gt h2 71 (gt h2 12 l0 29) (wI ((gt h 12 l0 25) - 1)))) 12 l0 28 then (if gt (pt h2 12 l0 52 (gt h2 71 (gt h2 12 l0 29) (wI ((gt h 12 l0 25) - 1)))) 70 (gt (pt h2 12 l0 52 (gt h2 71 (gt h2 12 l0 29) (wI ((gt h 12 l0 25) - 1)))) 12 l0 28) (wI ((gt h 12 l0 25) - 1)) ≠ 2 then (zl (pt (pt h2 12 l0 52 (gt h2 71 (gt h2 12 l0 29) (wI ((gt h 12 l0 25) - 1)))) 12 l0 53 (gt (pt h2 12 l0 52 (gt h2 71 (gt h2 12 l0 29) (wI ((gt h 12 l0 25) - 1)))) 12 l0 53)) (fun k17 => some (0, (pt k17 12 l0 25 (wI ((gt k17 12 l0 25) - 1)))))) else (if 0 ≤ gt (pt h2 12 l0 52 (gt h2 71 (gt h2 12 l0 29) (wI ((gt h 12 l0 25) - 1)))) 12 l0 31 then (zl (pt (pt h2 12 l0 52 (gt h2 71 (gt h2 12 l0 29) (wI ((gt h 12 l0 25) - 1)))) 12 l0 53 (gt (pt h2 12 l0 52 (gt h2 71 (gt h2 12 l0 29) (wI ((gt h 12 l0 25) - 1)))) 73 (gt (pt h2 12 l0 52 (gt h2 71 (gt h2 12 l0 29) (wI ((gt h 12 l0 25) - 1)))) 12 l0 31) (wI ((gt h 12 l0 25) - 1)))) (fun k19 => some (0, (pt k19 12 l0 25 (wI ((gt k19 12 l0 25) - 1)))))) else none)) else none) else none)) else none) else (if 0 ≤ gt h2 12 l0 28 then (if gt h2 70 (gt h2 12 l0 28) (wI ((gt h 12 l0 25) - 1)) ≤ 0 then (some (0, (pt h2 12 l0 25 (wI ((gt h2 12 l0 25) - 1))))) else (zb (F_X12_step l0 (pt h2 70 (gt h2 12 l0 28) (wI ((gt h 12 l0 25) - 1)) (wI ((gt h2 70 (gt h2 12 l0 28) (wI ((gt h 12 l0 25) - 1))) - 1)))) (fun r22 h22 => if r22 = 0 then (some (0, h22)) else (if 0 ≤ gt h22 12 l0 27 then (zb (F_X12_goTo l0 (wI ((gt h22 69 (gt h22 12 l0 27) (wI ((gt h 12 l0 25) - 1))) + 1)) h22) (fun r25 h25 => some (0, h25))) else none)))) else none)) else (zb (F_X12_endScope l0 h2) (fun r26 h26 => some (0, h26)))) else none) else none)) else none
set_option maxHeartbeats 1000000 in
theorem x_X12_endBlock_0 {l0 l1 : Int} {h : zH} {r : Int} {h' : zH} (hF : F_X12_endBlock_0 l0 l1 h = some (r, h')) : Ex 5 M_X12_endBlock 0 [some (vr 12 l0), some (vi l1), none] [] h (fun r1 h1 => r1 = none ∧ h1 = h') := by
  unfold F_X12_endBlock_0 at hF
  refine ex_aload_n (q := 1) dX12_endBlock_0 rfl rfl ?_
  obtain ⟨g1, hF⟩ := zg hF
  refine ex_get (q := 4) (v := vi (gt h 12 l0 25)) 25 dX12_endBlock_1 rfl fl_X12_217 g1 rfl rfl ?_
  refine ex_iconst (q := 5) dX12_endBlock_4 rfl ⟨by decide, by decide⟩ ?_
  refine ex_isub (q := 6) dX12_endBlock_5 rfl ?_
  refine ex_istore_n (q := 7) (lo' := [some (vr 12 l0), some (vi l1), some (vi (wI ((gt h 12 l0 25) - 1)))]) dX12_endBlock_6 rfl (by decide) rfl rfl ?_
  refine ex_aload_n (q := 8) dX12_endBlock_7 rfl rfl ?_
  refine ex_iload_n (q := 9) dX12_endBlock_8 rfl rfl ?_
  refine ex_iconst (q := 10) dX12_endBlock_9 rfl ⟨by decide, by decide⟩ ?_
  refine ex_iadd (q := 11) dX12_endBlock_10 rfl ?_
  obtain ⟨r2, h2, e2, hF⟩ := zb_some hF
  refine ex_callV (d' := 0) (q := 14) (as := [vi (wI (l1 + 1))]) (st1 := []) (r := none) (h2 := h2) dX12_endBlock_11 rfl (run_X12_goTo e2) mc_X12_goTo mv_X12_goTo ml_X12_230 (by decide) g1 rfl rfl (Nat.le_of_ble_eq_true rfl) rfl ?_
  refine ex_aload_n (q := 15) dX12_endBlock_14 rfl rfl ?_
  refine ex_get (q := 18) (v := vr 68 (gt h2 12 l0 26)) 26 dX12_endBlock_15 rfl fl_X12_66 g1 rfl rfl ?_
  refine ex_iload_n (q := 19) dX12_endBlock_18 rfl rfl ?_
  obtain ⟨g3, hF⟩ := zg hF
  obtain ⟨g4, hF⟩ := zg hF
  refine ex_iald (q := 20) dX12_endBlock_19 rfl kd_68 g3 g4.1 g4.2 ?_
  refine ex_bipush (q := 22) dX12_endBlock_20 rfl (by decide) ⟨by decide, by decide⟩ ?_
  refine ex_icmp_ne (q := 25) (tgt := 32) dX12_endBlock_22 rfl (by decide) (fun c5 => ?_) (fun c5 => ?_)
  · have hF := ip c5 hF
    refine ex_aload_n (q := 33) dX12_endBlock_32 rfl rfl ?_
    refine ex_get (q := 36) (v := vr 68 (gt h2 12 l0 26)) 26 dX12_endBlock_33 rfl fl_X12_66 g1 rfl rfl ?_
    refine ex_iload_n (q := 37) dX12_endBlock_36 rfl rfl ?_
    refine ex_iald (q := 38) dX12_endBlock_37 rfl kd_68 g3 g4.1 g4.2 ?_
    refine ex_bipush (q := 40) dX12_endBlock_38 rfl (by decide) ⟨by decide, by decide⟩ ?_
    refine ex_icmp_ne (q := 43) (tgt := 97) dX12_endBlock_40 rfl (by decide) (fun c6 => ?_) (fun c6 => ?_)
    · have hF := ip c6 hF
      refine ex_aload_n (q := 98) dX12_endBlock_97 rfl rfl ?_
      refine ex_aload_n (q := 99) dX12_endBlock_98 rfl rfl ?_
      refine ex_get (q := 102) (v := vr 70 (gt h2 12 l0 28)) 28 dX12_endBlock_99 rfl fl_X12_72 g1 rfl rfl ?_
      refine ex_iload_n (q := 103) dX12_endBlock_102 rfl rfl ?_
      obtain ⟨g7, hF⟩ := zg hF
      refine ex_iald (q := 104) dX12_endBlock_103 rfl kd_70 g7 g4.1 g4.2 ?_
      refine ex_iconst (q := 105) dX12_endBlock_104 rfl ⟨by decide, by decide⟩ ?_
      refine ex_icmp_ne (q := 108) (tgt := 117) dX12_endBlock_105 rfl (by decide) (fun c8 => ?_) (fun c8 => ?_)
      · have hF := ip c8 hF
        refine ex_iconst (q := 118) dX12_endBlock_117 rfl ⟨by decide, by decide⟩ ?_
        refine ex_put (q := 121) 52 dX12_endBlock_118 rfl fl_X12_255 (by decide) g1 rfl rfl (fun z => by cases z) ?_
        refine ex_aload_n (q := 122) dX12_endBlock_121 rfl rfl ?_
        refine ex_aload_n (q := 123) dX12_endBlock_122 rfl rfl ?_
        refine ex_get (q := 126) (v := vr 70 (gt (pt h2 12 l0 52 0) 12 l0 28)) 28 dX12_endBlock_123 rfl fl_X12_72 g1 rfl rfl ?_
        refine ex_iload_n (q := 127) dX12_endBlock_126 rfl rfl ?_
        obtain ⟨g9, hF⟩ := zg hF
        refine ex_iald (q := 128) dX12_endBlock_127 rfl kd_70 g9 g4.1 g4.2 ?_
        refine ex_iconst (q := 129) dX12_endBlock_128 rfl ⟨by decide, by decide⟩ ?_
        refine ex_icmp_ne (q := 132) (tgt := 141) dX12_endBlock_129 rfl (by decide) (fun c10 => ?_) (fun c10 => ?_)
        · have hF := ip c10 hF
          refine ex_aload_n (q := 142) dX12_endBlock_141 rfl rfl ?_
          refine ex_get (q := 145) (v := vi (gt (pt h2 12 l0 52 0) 12 l0 53)) 53 dX12_endBlock_142 rfl fl_X12_252 g1 rfl rfl ?_
          refine ex_put (q := 148) 53 dX12_endBlock_145 rfl fl_X12_252 (by decide) g1 rfl rfl (fun z => by cases z) ?_
          refine ex_aload_n (q := 149) dX12_endBlock_148 rfl rfl ?_
          refine ex_dup (q := 150) dX12_endBlock_149 rfl (fun _ z => by cases z) ?_
          refine ex_get (q := 153) (v := vi (gt (pt (pt h2 12 l0 52 0) 12 l0 53 (gt (pt h2 12 l0 52 0) 12 l0 53)) 12 l0 25)) 25 dX12_endBlock_150 rfl fl_X12_217 g1 rfl rfl ?_
          refine ex_iconst (q := 154) dX12_endBlock_153 rfl ⟨by decide, by decide⟩ ?_
          refine ex_isub (q := 155) dX12_endBlock_154 rfl ?_
          refine ex_put (q := 158) 25 dX12_endBlock_155 rfl fl_X12_217 (by decide) g1 rfl rfl (fun z => by cases z) ?_
          have hF := zl_e hF
          generalize pt (pt (pt h2 12 l0 52 0) 12 l0 53 (gt (pt h2 12 l0 52 0) 12 l0 53)) 12 l0 25 (wI ((gt (pt (pt h2 12 l0 52 0) 12 l0 53 (gt (pt h2 12 l0 52 0) 12 l0 53)) 12 l0 25) - 1)) = k11 at hF ⊢
          obtain ⟨rfl, rfl⟩ := zr hF
          exact ex_ret none rfl ⟨dX12_endBlock_158, rfl⟩ ⟨rfl, rfl⟩
        · have hF := im c10 hF
          refine ex_aload_n (q := 133) dX12_endBlock_132 rfl rfl ?_
          refine ex_get (q := 136) (v := vr 73 (gt (pt h2 12 l0 52 0) 12 l0 31)) 31 dX12_endBlock_133 rfl fl_X12_81 g1 rfl rfl ?_
          refine ex_iload_n (q := 137) dX12_endBlock_136 rfl rfl ?_
          obtain ⟨g12, hF⟩ := zg hF
          refine ex_iald (q := 138) dX12_endBlock_137 rfl kd_73 g12 g4.1 g4.2 ?_
          refine ex_goto (q := 145) dX12_endBlock_138 (by decide) ?_
          refine ex_put (q := 148) 53 dX12_endBlock_145 rfl fl_X12_252 (by decide) g1 rfl rfl (fun z => by cases z) ?_
          refine ex_aload_n (q := 149) dX12_endBlock_148 rfl rfl ?_
          refine ex_dup (q := 150) dX12_endBlock_149 rfl (fun _ z => by cases z) ?_
          refine ex_get (q := 153) (v := vi (gt (pt (pt h2 12 l0 52 0) 12 l0 53 (gt (pt h2 12 l0 52 0) 73 (gt (pt h2 12 l0 52 0) 12 l0 31) (wI ((gt h 12 l0 25) - 1)))) 12 l0 25)) 25 dX12_endBlock_150 rfl fl_X12_217 g1 rfl rfl ?_
          refine ex_iconst (q := 154) dX12_endBlock_153 rfl ⟨by decide, by decide⟩ ?_
          refine ex_isub (q := 155) dX12_endBlock_154 rfl ?_
          refine ex_put (q := 158) 25 dX12_endBlock_155 rfl fl_X12_217 (by decide) g1 rfl rfl (fun z => by cases z) ?_
          have hF := zl_e hF
          generalize pt (pt (pt h2 12 l0 52 0) 12 l0 53 (gt (pt h2 12 l0 52 0) 73 (gt (pt h2 12 l0 52 0) 12 l0 31) (wI ((gt h 12 l0 25) - 1)))) 12 l0 25 (wI ((gt (pt (pt h2 12 l0 52 0) 12 l0 53 (gt (pt h2 12 l0 52 0) 73 (gt (pt h2 12 l0 52 0) 12 l0 31) (wI ((gt h 12 l0 25) - 1)))) 12 l0 25) - 1)) = k13 at hF ⊢
          obtain ⟨rfl, rfl⟩ := zr hF
          exact ex_ret none rfl ⟨dX12_endBlock_158, rfl⟩ ⟨rfl, rfl⟩
      · have hF := im c8 hF
        refine ex_aload_n (q := 109) dX12_endBlock_108 rfl rfl ?_
        refine ex_get (q := 112) (v := vr 71 (gt h2 12 l0 29)) 29 dX12_endBlock_109 rfl fl_X12_75 g1 rfl rfl ?_
        refine ex_iload_n (q := 113) dX12_endBlock_112 rfl rfl ?_
        obtain ⟨g14, hF⟩ := zg hF
        refine ex_iald (q := 114) dX12_endBlock_113 rfl kd_71 g14 g4.1 g4.2 ?_
        refine ex_goto (q := 118) dX12_endBlock_114 (by decide) ?_
        refine ex_put (q := 121) 52 dX12_endBlock_118 rfl fl_X12_255 (by decide) g1 rfl rfl (fun z => by cases z) ?_
        refine ex_aload_n (q := 122) dX12_endBlock_121 rfl rfl ?_
        refine ex_aload_n (q := 123) dX12_endBlock_122 rfl rfl ?_
        refine ex_get (q := 126) (v := vr 70 (gt (pt h2 12 l0 52 (gt h2 71 (gt h2 12 l0 29) (wI ((gt h 12 l0 25) - 1)))) 12 l0 28)) 28 dX12_endBlock_123 rfl fl_X12_72 g1 rfl rfl ?_
        refine ex_iload_n (q := 127) dX12_endBlock_126 rfl rfl ?_
        obtain ⟨g15, hF⟩ := zg hF
        refine ex_iald (q := 128) dX12_endBlock_127 rfl kd_70 g15 g4.1 g4.2 ?_
        refine ex_iconst (q := 129) dX12_endBlock_128 rfl ⟨by decide, by decide⟩ ?_
        refine ex_icmp_ne (q := 132) (tgt := 141) dX12_endBlock_129 rfl (by decide) (fun c16 => ?_) (fun c16 => ?_)
        · have hF := ip c16 hF
          refine ex_aload_n (q := 142) dX12_endBlock_141 rfl rfl ?_
          refine ex_get (q := 145) (v := vi (gt (pt h2 12 l0 52 (gt h2 71 (gt h2 12 l0 29) (wI ((gt h 12 l0 25) - 1)))) 12 l0 53)) 53 dX12_endBlock_142 rfl fl_X12_252 g1 rfl rfl ?_
          refine ex_put (q := 148) 53 dX12_endBlock_145 rfl fl_X12_252 (by decide) g1 rfl rfl (fun z => by cases z) ?_
          have hF := zl_e hF
          generalize pt (pt h2 12 l0 52 (gt h2 71 (gt h2 12 l0 29) (wI ((gt h 12 l0 25) - 1)))) 12 l0 53 (gt (pt h2 12 l0 52 (gt h2 71 (gt h2 12 l0 29) (wI ((gt h 12 l0 25) - 1)))) 12 l0 53) = k17 at hF ⊢
          refine ex_aload_n (q := 149) dX12_endBlock_148 rfl rfl ?_
          refine ex_dup (q := 150) dX12_endBlock_149 rfl (fun _ z => by cases z) ?_
          refine ex_get (q := 153) (v := vi (gt k17 12 l0 25)) 25 dX12_endBlock_150 rfl fl_X12_217 g1 rfl rfl ?_
          refine ex_iconst (q := 154) dX12_endBlock_153 rfl ⟨by decide, by decide⟩ ?_
          refine ex_isub (q := 155) dX12_endBlock_154 rfl ?_
          refine ex_put (q := 158) 25 dX12_endBlock_155 rfl fl_X12_217 (by decide) g1 rfl rfl (fun z => by cases z) ?_
          obtain ⟨rfl, rfl⟩ := zr hF
          exact ex_ret none rfl ⟨dX12_endBlock_158, rfl⟩ ⟨rfl, rfl⟩
        · have hF := im c16 hF
          refine ex_aload_n (q := 133) dX12_endBlock_132 rfl rfl ?_
          refine ex_get (q := 136) (v := vr 73 (gt (pt h2 12 l0 52 (gt h2 71 (gt h2 12 l0 29) (wI ((gt h 12 l0 25) - 1)))) 12 l0 31)) 31 dX12_endBlock_133 rfl fl_X12_81 g1 rfl rfl ?_
          refine ex_iload_n (q := 137) dX12_endBlock_136 rfl rfl ?_
          obtain ⟨g18, hF⟩ := zg hF
          refine ex_iald (q := 138) dX12_endBlock_137 rfl kd_73 g18 g4.1 g4.2 ?_
          refine ex_goto (q := 145) dX12_endBlock_138 (by decide) ?_
          refine ex_put (q := 148) 53 dX12_endBlock_145 rfl fl_X12_252 (by decide) g1 rfl rfl (fun z => by cases z) ?_
          have hF := zl_e hF
          generalize pt (pt h2 12 l0 52 (gt h2 71 (gt h2 12 l0 29) (wI ((gt h 12 l0 25) - 1)))) 12 l0 53 (gt (pt h2 12 l0 52 (gt h2 71 (gt h2 12 l0 29) (wI ((gt h 12 l0 25) - 1)))) 73 (gt (pt h2 12 l0 52 (gt h2 71 (gt h2 12 l0 29) (wI ((gt h 12 l0 25) - 1)))) 12 l0 31) (wI ((gt h 12 l0 25) - 1))) = k19 at hF ⊢
          refine ex_aload_n (q := 149) dX12_endBlock_148 rfl rfl ?_
          refine ex_dup (q := 150) dX12_endBlock_149 rfl (fun _ z => by cases z) ?_
          refine ex_get (q := 153) (v := vi (gt k19 12 l0 25)) 25 dX12_endBlock_150 rfl fl_X12_217 g1 rfl rfl ?_
          refine ex_iconst (q := 154) dX12_endBlock_153 rfl ⟨by decide, by decide⟩ ?_
          refine ex_isub (q := 155) dX12_endBlock_154 rfl ?_
          refine ex_put (q := 158) 25 dX12_endBlock_155 rfl fl_X12_217 (by decide) g1 rfl rfl (fun z => by cases z) ?_
          obtain ⟨rfl, rfl⟩ := zr hF
          exact ex_ret none rfl ⟨dX12_endBlock_158, rfl⟩ ⟨rfl, rfl⟩
    · have hF := im c6 hF
      refine ex_aload_n (q := 44) dX12_endBlock_43 rfl rfl ?_
      refine ex_get (q := 47) (v := vr 70 (gt h2 12 l0 28)) 28 dX12_endBlock_44 rfl fl_X12_72 g1 rfl rfl ?_
      refine ex_iload_n (q := 48) dX12_endBlock_47 rfl rfl ?_
      obtain ⟨g20, hF⟩ := zg hF
      refine ex_iald (q := 49) dX12_endBlock_48 rfl kd_70 g20 g4.1 g4.2 ?_
      refine ex_if_le (q := 52) (tgt := 84) dX12_endBlock_49 rfl (by decide) (fun c21 => ?_) (fun c21 => ?_)
      · have hF := ip c21 hF
        refine ex_aload_n (q := 85) dX12_endBlock_84 rfl rfl ?_
        refine ex_dup (q := 86) dX12_endBlock_85 rfl (fun _ z => by cases z) ?_
        refine ex_get (q := 89) (v := vi (gt h2 12 l0 25)) 25 dX12_endBlock_86 rfl fl_X12_217 g1 rfl rfl ?_
        refine ex_iconst (q := 90) dX12_endBlock_89 rfl ⟨by decide, by decide⟩ ?_
        refine ex_isub (q := 91) dX12_endBlock_90 rfl ?_
        refine ex_put (q := 94) 25 dX12_endBlock_91 rfl fl_X12_217 (by decide) g1 rfl rfl (fun z => by cases z) ?_
        refine ex_goto (q := 158) dX12_endBlock_94 (by decide) ?_
        obtain ⟨rfl, rfl⟩ := zr hF
        exact ex_ret none rfl ⟨dX12_endBlock_158, rfl⟩ ⟨rfl, rfl⟩
      · have hF := im c21 hF
        refine ex_aload_n (q := 53) dX12_endBlock_52 rfl rfl ?_
        refine ex_get (q := 56) (v := vr 70 (gt h2 12 l0 28)) 28 dX12_endBlock_53 rfl fl_X12_72 g1 rfl rfl ?_
        refine ex_iload_n (q := 57) dX12_endBlock_56 rfl rfl ?_
        refine ex_dup2 (q := 58) dX12_endBlock_57 rfl (fun _ z => by cases z) (fun _ z => by cases z) ?_
        refine ex_iald (q := 59) dX12_endBlock_58 rfl kd_70 g20 g4.1 g4.2 ?_
        refine ex_iconst (q := 60) dX12_endBlock_59 rfl ⟨by decide, by decide⟩ ?_
        refine ex_isub (q := 61) dX12_endBlock_60 rfl ?_
        refine ex_iast (q := 62) dX12_endBlock_61 rfl kd_70 g20 g4.1 g4.2 ?_
        refine ex_aload_n (q := 63) dX12_endBlock_62 rfl rfl ?_
        obtain ⟨r22, h22, e22, hF⟩ := zb_some hF
        refine ex_callV (d' := 4) (q := 66) (as := []) (st1 := [vi r22]) (r := (some (vi r22))) (h2 := h22) dX12_endBlock_63 rfl (run_X12_step e22) mc_X12_step mv_X12_step ml_X12_293 (by decide) g1 rfl rfl (Nat.le_of_ble_eq_true rfl) rfl ?_
        refine ex_if_eq (q := 69) (tgt := 158) dX12_endBlock_66 rfl (by decide) (fun c23 => ?_) (fun c23 => ?_)
        · have hF := ip c23 hF
          obtain ⟨rfl, rfl⟩ := zr hF
          exact ex_ret none rfl ⟨dX12_endBlock_158, rfl⟩ ⟨rfl, rfl⟩
        · have hF := im c23 hF
          refine ex_aload_n (q := 70) dX12_endBlock_69 rfl rfl ?_
          refine ex_aload_n (q := 71) dX12_endBlock_70 rfl rfl ?_
          refine ex_get (q := 74) (v := vr 69 (gt h22 12 l0 27)) 27 dX12_endBlock_71 rfl fl_X12_69 g1 rfl rfl ?_
          refine ex_iload_n (q := 75) dX12_endBlock_74 rfl rfl ?_
          obtain ⟨g24, hF⟩ := zg hF
          refine ex_iald (q := 76) dX12_endBlock_75 rfl kd_69 g24 g4.1 g4.2 ?_
          refine ex_iconst (q := 77) dX12_endBlock_76 rfl ⟨by decide, by decide⟩ ?_
          refine ex_iadd (q := 78) dX12_endBlock_77 rfl ?_
          obtain ⟨r25, h25, e25, hF⟩ := zb_some hF
          refine ex_callV (d' := 0) (q := 81) (as := [vi (wI ((gt h22 69 (gt h22 12 l0 27) (wI ((gt h 12 l0 25) - 1))) + 1))]) (st1 := []) (r := none) (h2 := h25) dX12_endBlock_78 rfl (run_X12_goTo e25) mc_X12_goTo mv_X12_goTo ml_X12_230 (by decide) g1 rfl rfl (Nat.le_of_ble_eq_true rfl) rfl ?_
          refine ex_goto (q := 158) dX12_endBlock_81 (by decide) ?_
          obtain ⟨rfl, rfl⟩ := zr hF
          exact ex_ret none rfl ⟨dX12_endBlock_158, rfl⟩ ⟨rfl, rfl⟩
  · have hF := im c5 hF
    refine ex_aload_n (q := 26) dX12_endBlock_25 rfl rfl ?_
    obtain ⟨r26, h26, e26, hF⟩ := zb_some hF
    refine ex_callV (d' := 4) (q := 29) (as := []) (st1 := []) (r := none) (h2 := h26) dX12_endBlock_26 rfl (run_X12_endScope e26) mc_X12_endScope mv_X12_endScope ml_X12_309 (by decide) g1 rfl rfl (Nat.le_of_ble_eq_true rfl) rfl ?_
    refine ex_goto (q := 158) dX12_endBlock_29 (by decide) ?_
    obtain ⟨rfl, rfl⟩ := zr hF
    exact ex_ret none rfl ⟨dX12_endBlock_158, rfl⟩ ⟨rfl, rfl⟩
def F_X12_endBlock (l0 l1 : Int) (h : zH) : zO := F_X12_endBlock_0 l0 l1 h
theorem run_X12_endBlock {l0 l1 : Int} {h : zH} {r : Int} {h' : zH} (hF : F_X12_endBlock l0 l1 h = some (r, h')) : Run 5 yX12_endBlock cX12_endBlock 3 none [vr 12 l0, vi l1] h none h' := run_of (M := M_X12_endBlock) (by decide) rfl (fun z => by cases z) (Nat.le_of_ble_eq_true rfl) (x_X12_endBlock_0 hF)
abbrev M_X12_behind : zM := (RX12, (cX12_behind, (7, ((some .int), false))))
def F_X12_behind_60 (ag10 : Int → Int → Int → Int → Int → zH → zO) (l0 l1 l3 l4 l5 l6 : Int) (h : zH) : zO := zb (F_X12_begins l6 h) (fun r1 h1 => if r1 = 0 then (if l6 ≠ 16 then (ag10 l0 l1 (wI (l3 + 0)) (wI (l4 + 1)) l5 h1) else (ag10 l0 l1 (wI (l3 + (-1))) (wI (l4 + 1)) l5 h1)) else (ag10 l0 l1 (wI (l3 + 1)) (wI (l4 + 1)) l5 h1))
set_option maxHeartbeats 1000000 in
theorem x_X12_behind_60 {ag10 : Int → Int → Int → Int → Int → zH → zO} (hag10 : ∀ (l0 l1 l3 l4 l5 : Int) (h : zH) (r : Int) (h' : zH), ag10 l0 l1 l3 l4 l5 h = some (r, h') → Ex 1 M_X12_behind 10 [some (vr 12 l0), some (vi l1), none, some (vi l3), some (vi l4), some (vi l5), none] [] h (fun r1 h1 => r1 = some (vi r) ∧ h1 = h')) {l0 l1 l3 l4 l5 l6 : Int} {h : zH} {r : Int} {h' : zH} (hF : F_X12_behind_60 ag10 l0 l1 l3 l4 l5 l6 h = some (r, h')) : Ex 1 M_X12_behind 60 [some (vr 12 l0), some (vi l1), none, some (vi l3), some (vi l4), some (vi l5), some (vi l6)] [] h (fun r1 h1 => r1 = some (vi r) ∧ h1 = h') := by
  unfold F_X12_behind_60 at hF
  refine ex_iload_n (q := 61) dX12_behind_60 rfl rfl ?_
  refine ex_iload (q := 63) dX12_behind_61 rfl rfl ?_
  obtain ⟨r1, h1, e1, hF⟩ := zb_some hF
  refine ex_callS (d' := 0) (q := 66) (as := [vi l6]) (st1 := [vi r1, vi l3]) (r := (some (vi r1))) (h2 := h1) dX12_behind_63 rfl (run_X12_begins e1) mc_X12_begins ms_X12_begins ml_X12_206 (by decide) rfl rfl (Nat.le_of_ble_eq_true rfl) rfl ?_
  refine ex_if_eq (q := 69) (tgt := 73) dX12_behind_66 rfl (by decide) (fun c2 => ?_) (fun c2 => ?_)
  · have hF := ip c2 hF
    refine ex_iload (q := 75) dX12_behind_73 rfl rfl ?_
    refine ex_bipush (q := 77) dX12_behind_75 rfl (by decide) ⟨by decide, by decide⟩ ?_
    refine ex_icmp_ne (q := 80) (tgt := 84) dX12_behind_77 rfl (by decide) (fun c3 => ?_) (fun c3 => ?_)
    · have hF := ip c3 hF
      refine ex_iconst (q := 85) dX12_behind_84 rfl ⟨by decide, by decide⟩ ?_
      refine ex_iadd (q := 86) dX12_behind_85 rfl ?_
      refine ex_istore_n (q := 87) (lo' := [some (vr 12 l0), some (vi l1), none, some (vi (wI (l3 + 0))), some (vi l4), some (vi l5), some (vi l6)]) dX12_behind_86 rfl (by decide) rfl rfl ?_
      refine ex_iinc (q := 90) (lo' := [some (vr 12 l0), some (vi l1), none, some (vi (wI (l3 + 0))), some (vi (wI (l4 + 1))), some (vi l5), some (vi l6)]) dX12_behind_87 rfl rfl (by decide) rfl rfl ?_
      refine ex_goto (q := 10) dX12_behind_90 (by decide) ?_
      exact ex_forget (lo' := [some (vr 12 l0), some (vi l1), none, some (vi (wI (l3 + 0))), some (vi (wI (l4 + 1))), some (vi l5), none]) ⟨Or.inr rfl, Or.inr rfl, Or.inl rfl, Or.inr rfl, Or.inr rfl, Or.inr rfl, Or.inl rfl, trivial⟩ (hag10 _ _ _ _ _ _ _ _ hF)
    · have hF := im c3 hF
      refine ex_iconst (q := 81) dX12_behind_80 rfl ⟨by decide, by decide⟩ ?_
      refine ex_goto (q := 85) dX12_behind_81 (by decide) ?_
      refine ex_iadd (q := 86) dX12_behind_85 rfl ?_
      refine ex_istore_n (q := 87) (lo' := [some (vr 12 l0), some (vi l1), none, some (vi (wI (l3 + (-1)))), some (vi l4), some (vi l5), some (vi l6)]) dX12_behind_86 rfl (by decide) rfl rfl ?_
      refine ex_iinc (q := 90) (lo' := [some (vr 12 l0), some (vi l1), none, some (vi (wI (l3 + (-1)))), some (vi (wI (l4 + 1))), some (vi l5), some (vi l6)]) dX12_behind_87 rfl rfl (by decide) rfl rfl ?_
      refine ex_goto (q := 10) dX12_behind_90 (by decide) ?_
      exact ex_forget (lo' := [some (vr 12 l0), some (vi l1), none, some (vi (wI (l3 + (-1)))), some (vi (wI (l4 + 1))), some (vi l5), none]) ⟨Or.inr rfl, Or.inr rfl, Or.inl rfl, Or.inr rfl, Or.inr rfl, Or.inr rfl, Or.inl rfl, trivial⟩ (hag10 _ _ _ _ _ _ _ _ hF)
  · have hF := im c2 hF
    refine ex_iconst (q := 70) dX12_behind_69 rfl ⟨by decide, by decide⟩ ?_
    refine ex_goto (q := 85) dX12_behind_70 (by decide) ?_
    refine ex_iadd (q := 86) dX12_behind_85 rfl ?_
    refine ex_istore_n (q := 87) (lo' := [some (vr 12 l0), some (vi l1), none, some (vi (wI (l3 + 1))), some (vi l4), some (vi l5), some (vi l6)]) dX12_behind_86 rfl (by decide) rfl rfl ?_
    refine ex_iinc (q := 90) (lo' := [some (vr 12 l0), some (vi l1), none, some (vi (wI (l3 + 1))), some (vi (wI (l4 + 1))), some (vi l5), some (vi l6)]) dX12_behind_87 rfl rfl (by decide) rfl rfl ?_
    refine ex_goto (q := 10) dX12_behind_90 (by decide) ?_
    exact ex_forget (lo' := [some (vr 12 l0), some (vi l1), none, some (vi (wI (l3 + 1))), some (vi (wI (l4 + 1))), some (vi l5), none]) ⟨Or.inr rfl, Or.inr rfl, Or.inl rfl, Or.inr rfl, Or.inr rfl, Or.inr rfl, Or.inl rfl, trivial⟩ (hag10 _ _ _ _ _ _ _ _ hF)
def F_X12_behind_54 (ag10 : Int → Int → Int → Int → Int → zH → zO) (l0 l1 l3 l4 : Int) (h : zH) : zO := ag10 l0 l1 l3 l4 0 h
set_option maxHeartbeats 1000000 in
theorem x_X12_behind_54 {ag10 : Int → Int → Int → Int → Int → zH → zO} (hag10 : ∀ (l0 l1 l3 l4 l5 : Int) (h : zH) (r : Int) (h' : zH), ag10 l0 l1 l3 l4 l5 h = some (r, h') → Ex 1 M_X12_behind 10 [some (vr 12 l0), some (vi l1), none, some (vi l3), some (vi l4), some (vi l5), none] [] h (fun r1 h1 => r1 = some (vi r) ∧ h1 = h')) {l0 l1 l3 l4 : Int} {h : zH} {r : Int} {h' : zH} (hF : F_X12_behind_54 ag10 l0 l1 l3 l4 h = some (r, h')) : Ex 1 M_X12_behind 54 [some (vr 12 l0), some (vi l1), none, some (vi l3), some (vi l4), none, none] [] h (fun r1 h1 => r1 = some (vi r) ∧ h1 = h') := by
  unfold F_X12_behind_54 at hF
  refine ex_iconst (q := 55) dX12_behind_54 rfl ⟨by decide, by decide⟩ ?_
  refine ex_istore (q := 57) (lo' := [some (vr 12 l0), some (vi l1), none, some (vi l3), some (vi l4), some (vi 0), none]) dX12_behind_55 rfl (by decide) rfl rfl ?_
  refine ex_goto (q := 90) dX12_behind_57 (by decide) ?_
  refine ex_goto (q := 10) dX12_behind_90 (by decide) ?_
  exact ex_forget (lo' := [some (vr 12 l0), some (vi l1), none, some (vi l3), some (vi l4), some (vi 0), none]) ⟨Or.inr rfl, Or.inr rfl, Or.inl rfl, Or.inr rfl, Or.inr rfl, Or.inr rfl, Or.inl rfl, trivial⟩ (hag10 _ _ _ _ _ _ _ _ hF)
def F_X12_behind_10b (ag10 : Int → Int → Int → Int → Int → zH → zO) (l0 l1 l3 l4 l5 : Int) (h : zH) : zO := if l5 = 0 then (some (l4, h)) else (if 0 ≤ l0 then (if 0 ≤ gt h 12 l0 18 then (if 0 ≤ wI ((wI (40 * l1)) + l4) ∧ wI ((wI (40 * l1)) + l4) < 480 then (if l3 ≠ 0 then (F_X12_behind_60 ag10 l0 l1 l3 l4 l5 (gt h 63 (gt h 12 l0 18) (wI ((wI (40 * l1)) + l4))) h) else (if gt h 63 (gt h 12 l0 18) (wI ((wI (40 * l1)) + l4)) = 16 then (F_X12_behind_54 ag10 l0 l1 l3 l4 h) else (if gt h 63 (gt h 12 l0 18) (wI ((wI (40 * l1)) + l4)) = 14 then (F_X12_behind_54 ag10 l0 l1 l3 l4 h) else (if gt h 63 (gt h 12 l0 18) (wI ((wI (40 * l1)) + l4)) ≠ 15 then (F_X12_behind_60 ag10 l0 l1 l3 l4 l5 (gt h 63 (gt h 12 l0 18) (wI ((wI (40 * l1)) + l4))) h) else (F_X12_behind_54 ag10 l0 l1 l3 l4 h))))) else none) else none) else none)
set_option maxHeartbeats 1000000 in
theorem x_X12_behind_10b {ag10 : Int → Int → Int → Int → Int → zH → zO} (hag10 : ∀ (l0 l1 l3 l4 l5 : Int) (h : zH) (r : Int) (h' : zH), ag10 l0 l1 l3 l4 l5 h = some (r, h') → Ex 1 M_X12_behind 10 [some (vr 12 l0), some (vi l1), none, some (vi l3), some (vi l4), some (vi l5), none] [] h (fun r1 h1 => r1 = some (vi r) ∧ h1 = h')) {l0 l1 l3 l4 l5 : Int} {h : zH} {r : Int} {h' : zH} (hF : F_X12_behind_10b ag10 l0 l1 l3 l4 l5 h = some (r, h')) : Ex 1 M_X12_behind 10 [some (vr 12 l0), some (vi l1), none, some (vi l3), some (vi l4), some (vi l5), none] [] h (fun r1 h1 => r1 = some (vi r) ∧ h1 = h') := by
  unfold F_X12_behind_10b at hF
  refine ex_iload (q := 12) dX12_behind_10 rfl rfl ?_
  refine ex_if_eq (q := 15) (tgt := 93) dX12_behind_12 rfl (by decide) (fun c1 => ?_) (fun c1 => ?_)
  · have hF := ip c1 hF
    refine ex_iload (q := 95) dX12_behind_93 rfl rfl ?_
    obtain ⟨rfl, rfl⟩ := zr hF
    exact ex_ret (some (vi l4)) rfl ⟨dX12_behind_95, Or.inl rfl⟩ ⟨rfl, rfl⟩
  · have hF := im c1 hF
    refine ex_aload_n (q := 16) dX12_behind_15 rfl rfl ?_
    obtain ⟨g2, hF⟩ := zg hF
    refine ex_get (q := 19) (v := vr 63 (gt h 12 l0 18)) 18 dX12_behind_16 rfl fl_X12_50 g2 rfl rfl ?_
    refine ex_bipush (q := 21) dX12_behind_19 rfl (by decide) ⟨by decide, by decide⟩ ?_
    refine ex_iload_n (q := 22) dX12_behind_21 rfl rfl ?_
    refine ex_imul (q := 23) dX12_behind_22 rfl ?_
    refine ex_iload (q := 25) dX12_behind_23 rfl rfl ?_
    refine ex_iadd (q := 26) dX12_behind_25 rfl ?_
    obtain ⟨g3, hF⟩ := zg hF
    obtain ⟨g4, hF⟩ := zg hF
    refine ex_iald (q := 27) dX12_behind_26 rfl kd_63 g3 g4.1 g4.2 ?_
    refine ex_istore (q := 29) (lo' := [some (vr 12 l0), some (vi l1), none, some (vi l3), some (vi l4), some (vi l5), some (vi (gt h 63 (gt h 12 l0 18) (wI ((wI (40 * l1)) + l4))))]) dX12_behind_27 rfl (by decide) rfl rfl ?_
    refine ex_iload_n (q := 30) dX12_behind_29 rfl rfl ?_
    refine ex_if_ne (q := 33) (tgt := 60) dX12_behind_30 rfl (by decide) (fun c5 => ?_) (fun c5 => ?_)
    · have hF := ip c5 hF
      exact ex_forget (lo' := [some (vr 12 l0), some (vi l1), none, some (vi l3), some (vi l4), some (vi l5), some (vi (gt h 63 (gt h 12 l0 18) (wI ((wI (40 * l1)) + l4))))]) ⟨Or.inr rfl, Or.inr rfl, Or.inl rfl, Or.inr rfl, Or.inr rfl, Or.inr rfl, Or.inr rfl, trivial⟩ (x_X12_behind_60 hag10 hF)
    · have hF := im c5 hF
      refine ex_iload (q := 35) dX12_behind_33 rfl rfl ?_
      refine ex_bipush (q := 37) dX12_behind_35 rfl (by decide) ⟨by decide, by decide⟩ ?_
      refine ex_icmp_eq (q := 40) (tgt := 54) dX12_behind_37 rfl (by decide) (fun c6 => ?_) (fun c6 => ?_)
      · have hF := ip c6 hF
        exact ex_forget (lo' := [some (vr 12 l0), some (vi l1), none, some (vi l3), some (vi l4), none, none]) ⟨Or.inr rfl, Or.inr rfl, Or.inl rfl, Or.inr rfl, Or.inr rfl, Or.inl rfl, Or.inl rfl, trivial⟩ (x_X12_behind_54 hag10 hF)
      · have hF := im c6 hF
        refine ex_iload (q := 42) dX12_behind_40 rfl rfl ?_
        refine ex_bipush (q := 44) dX12_behind_42 rfl (by decide) ⟨by decide, by decide⟩ ?_
        refine ex_icmp_eq (q := 47) (tgt := 54) dX12_behind_44 rfl (by decide) (fun c7 => ?_) (fun c7 => ?_)
        · have hF := ip c7 hF
          exact ex_forget (lo' := [some (vr 12 l0), some (vi l1), none, some (vi l3), some (vi l4), none, none]) ⟨Or.inr rfl, Or.inr rfl, Or.inl rfl, Or.inr rfl, Or.inr rfl, Or.inl rfl, Or.inl rfl, trivial⟩ (x_X12_behind_54 hag10 hF)
        · have hF := im c7 hF
          refine ex_iload (q := 49) dX12_behind_47 rfl rfl ?_
          refine ex_bipush (q := 51) dX12_behind_49 rfl (by decide) ⟨by decide, by decide⟩ ?_
          refine ex_icmp_ne (q := 54) (tgt := 60) dX12_behind_51 rfl (by decide) (fun c8 => ?_) (fun c8 => ?_)
          · have hF := ip c8 hF
            exact ex_forget (lo' := [some (vr 12 l0), some (vi l1), none, some (vi l3), some (vi l4), some (vi l5), some (vi (gt h 63 (gt h 12 l0 18) (wI ((wI (40 * l1)) + l4))))]) ⟨Or.inr rfl, Or.inr rfl, Or.inl rfl, Or.inr rfl, Or.inr rfl, Or.inr rfl, Or.inr rfl, trivial⟩ (x_X12_behind_60 hag10 hF)
          · have hF := im c8 hF
            exact ex_forget (lo' := [some (vr 12 l0), some (vi l1), none, some (vi l3), some (vi l4), none, none]) ⟨Or.inr rfl, Or.inr rfl, Or.inl rfl, Or.inr rfl, Or.inr rfl, Or.inl rfl, Or.inl rfl, trivial⟩ (x_X12_behind_54 hag10 hF)
def F_X12_behind_10 : Nat → Int → Int → Int → Int → Int → zH → zO
  | 0, _, _, _, _, _, _ => none
  | n + 1, l0, l1, l3, l4, l5, h => F_X12_behind_10b (F_X12_behind_10 n) l0 l1 l3 l4 l5 h
theorem x_X12_behind_10 : ∀ (n : Nat) (l0 l1 l3 l4 l5 : Int) (h : zH) (r : Int) (h' : zH), F_X12_behind_10 n l0 l1 l3 l4 l5 h = some (r, h') → Ex 1 M_X12_behind 10 [some (vr 12 l0), some (vi l1), none, some (vi l3), some (vi l4), some (vi l5), none] [] h (fun r1 h1 => r1 = some (vi r) ∧ h1 = h')
  | 0, _, _, _, _, _, _, _, _, hF => by cases hF
  | n + 1, _, _, _, _, _, _, _, _, hF => x_X12_behind_10b (x_X12_behind_10 n) hF
def F_X12_behind_0 (l0 l1 l2 : Int) (h : zH) : zO := F_X12_behind_10 zF l0 l1 0 (wI (l2 + 1)) 1 h
set_option maxHeartbeats 1000000 in
theorem x_X12_behind_0 {l0 l1 l2 : Int} {h : zH} {r : Int} {h' : zH} (hF : F_X12_behind_0 l0 l1 l2 h = some (r, h')) : Ex 1 M_X12_behind 0 [some (vr 12 l0), some (vi l1), some (vi l2), none, none, none, none] [] h (fun r1 h1 => r1 = some (vi r) ∧ h1 = h') := by
  unfold F_X12_behind_0 at hF
  refine ex_iconst (q := 1) dX12_behind_0 rfl ⟨by decide, by decide⟩ ?_
  refine ex_istore_n (q := 2) (lo' := [some (vr 12 l0), some (vi l1), some (vi l2), some (vi 0), none, none, none]) dX12_behind_1 rfl (by decide) rfl rfl ?_
  refine ex_iload_n (q := 3) dX12_behind_2 rfl rfl ?_
  refine ex_iconst (q := 4) dX12_behind_3 rfl ⟨by decide, by decide⟩ ?_
  refine ex_iadd (q := 5) dX12_behind_4 rfl ?_
  refine ex_istore (q := 7) (lo' := [some (vr 12 l0), some (vi l1), some (vi l2), some (vi 0), some (vi (wI (l2 + 1))), none, none]) dX12_behind_5 rfl (by decide) rfl rfl ?_
  refine ex_iconst (q := 8) dX12_behind_7 rfl ⟨by decide, by decide⟩ ?_
  refine ex_istore (q := 10) (lo' := [some (vr 12 l0), some (vi l1), some (vi l2), some (vi 0), some (vi (wI (l2 + 1))), some (vi 1), none]) dX12_behind_8 rfl (by decide) rfl rfl ?_
  exact ex_forget (lo' := [some (vr 12 l0), some (vi l1), none, some (vi 0), some (vi (wI (l2 + 1))), some (vi 1), none]) ⟨Or.inr rfl, Or.inr rfl, Or.inl rfl, Or.inr rfl, Or.inr rfl, Or.inr rfl, Or.inl rfl, trivial⟩ (x_X12_behind_10 _ _ _ _ _ _ _ _ _ hF)
def F_X12_behind (l0 l1 l2 : Int) (h : zH) : zO := F_X12_behind_0 l0 l1 l2 h
theorem run_X12_behind {l0 l1 l2 : Int} {h : zH} {r : Int} {h' : zH} (hF : F_X12_behind l0 l1 l2 h = some (r, h')) : Run 1 yX12_behind cX12_behind 7 (some .int) [vr 12 l0, vi l1, vi l2] h (some (vi r)) h' := run_of (M := M_X12_behind) (by decide) rfl (fun z => by cases z) (Nat.le_of_ble_eq_true rfl) (x_X12_behind_0 hF)
abbrev M_X12_finishOf : zM := (RX12, (cX12_finishOf, (4, ((some .int), false))))
def F_X12_finishOf_7b (ag7 : Int → Int → Int → zH → zO) (l0 l1 l3 : Int) (h : zH) : zO := if 0 ≤ l0 then (if 0 ≤ gt h 12 l0 18 then (if 0 ≤ wI ((wI (40 * l1)) + l3) ∧ wI ((wI (40 * l1)) + l3) < 480 then (if gt h 63 (gt h 12 l0 18) (wI ((wI (40 * l1)) + l3)) ≠ 14 then (if gt h 63 (gt h 12 l0 18) (wI ((wI (40 * l1)) + l3)) ≠ 15 then (some ((-1), h)) else (some (l3, h))) else (zb (F_X12_behind l0 l1 l3 h) (fun r6 h6 => ag7 l0 l1 r6 h6))) else none) else none) else none
set_option maxHeartbeats 1000000 in
theorem x_X12_finishOf_7b {ag7 : Int → Int → Int → zH → zO} (hag7 : ∀ (l0 l1 l3 : Int) (h : zH) (r : Int) (h' : zH), ag7 l0 l1 l3 h = some (r, h') → Ex 2 M_X12_finishOf 7 [some (vr 12 l0), some (vi l1), none, some (vi l3)] [] h (fun r1 h1 => r1 = some (vi r) ∧ h1 = h')) {l0 l1 l3 : Int} {h : zH} {r : Int} {h' : zH} (hF : F_X12_finishOf_7b ag7 l0 l1 l3 h = some (r, h')) : Ex 2 M_X12_finishOf 7 [some (vr 12 l0), some (vi l1), none, some (vi l3)] [] h (fun r1 h1 => r1 = some (vi r) ∧ h1 = h') := by
  unfold F_X12_finishOf_7b at hF
  refine ex_aload_n (q := 8) dX12_finishOf_7 rfl rfl ?_
  obtain ⟨g1, hF⟩ := zg hF
  refine ex_get (q := 11) (v := vr 63 (gt h 12 l0 18)) 18 dX12_finishOf_8 rfl fl_X12_50 g1 rfl rfl ?_
  refine ex_bipush (q := 13) dX12_finishOf_11 rfl (by decide) ⟨by decide, by decide⟩ ?_
  refine ex_iload_n (q := 14) dX12_finishOf_13 rfl rfl ?_
  refine ex_imul (q := 15) dX12_finishOf_14 rfl ?_
  refine ex_iload_n (q := 16) dX12_finishOf_15 rfl rfl ?_
  refine ex_iadd (q := 17) dX12_finishOf_16 rfl ?_
  obtain ⟨g2, hF⟩ := zg hF
  obtain ⟨g3, hF⟩ := zg hF
  refine ex_iald (q := 18) dX12_finishOf_17 rfl kd_63 g2 g3.1 g3.2 ?_
  refine ex_bipush (q := 20) dX12_finishOf_18 rfl (by decide) ⟨by decide, by decide⟩ ?_
  refine ex_icmp_ne (q := 23) (tgt := 33) dX12_finishOf_20 rfl (by decide) (fun c4 => ?_) (fun c4 => ?_)
  · have hF := ip c4 hF
    refine ex_aload_n (q := 34) dX12_finishOf_33 rfl rfl ?_
    refine ex_get (q := 37) (v := vr 63 (gt h 12 l0 18)) 18 dX12_finishOf_34 rfl fl_X12_50 g1 rfl rfl ?_
    refine ex_bipush (q := 39) dX12_finishOf_37 rfl (by decide) ⟨by decide, by decide⟩ ?_
    refine ex_iload_n (q := 40) dX12_finishOf_39 rfl rfl ?_
    refine ex_imul (q := 41) dX12_finishOf_40 rfl ?_
    refine ex_iload_n (q := 42) dX12_finishOf_41 rfl rfl ?_
    refine ex_iadd (q := 43) dX12_finishOf_42 rfl ?_
    refine ex_iald (q := 44) dX12_finishOf_43 rfl kd_63 g2 g3.1 g3.2 ?_
    refine ex_bipush (q := 46) dX12_finishOf_44 rfl (by decide) ⟨by decide, by decide⟩ ?_
    refine ex_icmp_ne (q := 49) (tgt := 53) dX12_finishOf_46 rfl (by decide) (fun c5 => ?_) (fun c5 => ?_)
    · have hF := ip c5 hF
      refine ex_iconst (q := 54) dX12_finishOf_53 rfl ⟨by decide, by decide⟩ ?_
      obtain ⟨rfl, rfl⟩ := zr hF
      exact ex_ret (some (vi (-1))) rfl ⟨dX12_finishOf_54, Or.inl rfl⟩ ⟨rfl, rfl⟩
    · have hF := im c5 hF
      refine ex_iload_n (q := 50) dX12_finishOf_49 rfl rfl ?_
      refine ex_goto (q := 54) dX12_finishOf_50 (by decide) ?_
      obtain ⟨rfl, rfl⟩ := zr hF
      exact ex_ret (some (vi l3)) rfl ⟨dX12_finishOf_54, Or.inl rfl⟩ ⟨rfl, rfl⟩
  · have hF := im c4 hF
    refine ex_aload_n (q := 24) dX12_finishOf_23 rfl rfl ?_
    refine ex_iload_n (q := 25) dX12_finishOf_24 rfl rfl ?_
    refine ex_iload_n (q := 26) dX12_finishOf_25 rfl rfl ?_
    obtain ⟨r6, h6, e6, hF⟩ := zb_some hF
    refine ex_callV (d' := 1) (q := 29) (as := [vi l1, vi l3]) (st1 := [vi r6]) (r := (some (vi r6))) (h2 := h6) dX12_finishOf_26 rfl (run_X12_behind e6) mc_X12_behind mv_X12_behind ml_X12_213 (by decide) g1 rfl rfl (Nat.le_of_ble_eq_true rfl) rfl ?_
    refine ex_istore_n (q := 30) (lo' := [some (vr 12 l0), some (vi l1), none, some (vi r6)]) dX12_finishOf_29 rfl (by decide) rfl rfl ?_
    refine ex_goto (q := 7) dX12_finishOf_30 (by decide) ?_
    exact ex_forget (lo' := [some (vr 12 l0), some (vi l1), none, some (vi r6)]) ⟨Or.inr rfl, Or.inr rfl, Or.inl rfl, Or.inr rfl, trivial⟩ (hag7 _ _ _ _ _ _ hF)
def F_X12_finishOf_7 : Nat → Int → Int → Int → zH → zO
  | 0, _, _, _, _ => none
  | n + 1, l0, l1, l3, h => F_X12_finishOf_7b (F_X12_finishOf_7 n) l0 l1 l3 h
theorem x_X12_finishOf_7 : ∀ (n : Nat) (l0 l1 l3 : Int) (h : zH) (r : Int) (h' : zH), F_X12_finishOf_7 n l0 l1 l3 h = some (r, h') → Ex 2 M_X12_finishOf 7 [some (vr 12 l0), some (vi l1), none, some (vi l3)] [] h (fun r1 h1 => r1 = some (vi r) ∧ h1 = h')
  | 0, _, _, _, _, _, _, hF => by cases hF
  | n + 1, _, _, _, _, _, _, hF => x_X12_finishOf_7b (x_X12_finishOf_7 n) hF
def F_X12_finishOf_0 (l0 l1 l2 : Int) (h : zH) : zO := if 0 ≤ l0 then (zb (F_X12_behind l0 l1 l2 h) (fun r1 h1 => F_X12_finishOf_7 zF l0 l1 r1 h1)) else none
set_option maxHeartbeats 1000000 in
theorem x_X12_finishOf_0 {l0 l1 l2 : Int} {h : zH} {r : Int} {h' : zH} (hF : F_X12_finishOf_0 l0 l1 l2 h = some (r, h')) : Ex 2 M_X12_finishOf 0 [some (vr 12 l0), some (vi l1), some (vi l2), none] [] h (fun r1 h1 => r1 = some (vi r) ∧ h1 = h') := by
  unfold F_X12_finishOf_0 at hF
  refine ex_aload_n (q := 1) dX12_finishOf_0 rfl rfl ?_
  refine ex_iload_n (q := 2) dX12_finishOf_1 rfl rfl ?_
  refine ex_iload_n (q := 3) dX12_finishOf_2 rfl rfl ?_
  obtain ⟨g2, hF⟩ := zg hF
  obtain ⟨r1, h1, e1, hF⟩ := zb_some hF
  refine ex_callV (d' := 1) (q := 6) (as := [vi l1, vi l2]) (st1 := [vi r1]) (r := (some (vi r1))) (h2 := h1) dX12_finishOf_3 rfl (run_X12_behind e1) mc_X12_behind mv_X12_behind ml_X12_213 (by decide) g2 rfl rfl (Nat.le_of_ble_eq_true rfl) rfl ?_
  refine ex_istore_n (q := 7) (lo' := [some (vr 12 l0), some (vi l1), some (vi l2), some (vi r1)]) dX12_finishOf_6 rfl (by decide) rfl rfl ?_
  exact ex_forget (lo' := [some (vr 12 l0), some (vi l1), none, some (vi r1)]) ⟨Or.inr rfl, Or.inr rfl, Or.inl rfl, Or.inr rfl, trivial⟩ (x_X12_finishOf_7 _ _ _ _ _ _ _ hF)
def F_X12_finishOf (l0 l1 l2 : Int) (h : zH) : zO := F_X12_finishOf_0 l0 l1 l2 h
theorem run_X12_finishOf {l0 l1 l2 : Int} {h : zH} {r : Int} {h' : zH} (hF : F_X12_finishOf l0 l1 l2 h = some (r, h')) : Run 2 yX12_finishOf cX12_finishOf 4 (some .int) [vr 12 l0, vi l1, vi l2] h (some (vi r)) h' := run_of (M := M_X12_finishOf) (by decide) rfl (fun z => by cases z) (Nat.le_of_ble_eq_true rfl) (x_X12_finishOf_0 hF)
abbrev M_X12_endOf : zM := (RX12, (cX12_endOf, (4, ((some .int), false))))
def F_X12_endOf_7b (ag7 : Int → Int → Int → zH → zO) (l0 l1 l3 : Int) (h : zH) : zO := if 0 ≤ l0 then (if 0 ≤ gt h 12 l0 18 then (if 0 ≤ wI ((wI (40 * l1)) + l3) ∧ wI ((wI (40 * l1)) + l3) < 480 then (if gt h 63 (gt h 12 l0 18) (wI ((wI (40 * l1)) + l3)) = 16 then (some (l3, h)) else (zb (F_X12_behind l0 l1 l3 h) (fun r5 h5 => ag7 l0 l1 r5 h5))) else none) else none) else none
set_option maxHeartbeats 1000000 in
theorem x_X12_endOf_7b {ag7 : Int → Int → Int → zH → zO} (hag7 : ∀ (l0 l1 l3 : Int) (h : zH) (r : Int) (h' : zH), ag7 l0 l1 l3 h = some (r, h') → Ex 2 M_X12_endOf 7 [some (vr 12 l0), some (vi l1), none, some (vi l3)] [] h (fun r1 h1 => r1 = some (vi r) ∧ h1 = h')) {l0 l1 l3 : Int} {h : zH} {r : Int} {h' : zH} (hF : F_X12_endOf_7b ag7 l0 l1 l3 h = some (r, h')) : Ex 2 M_X12_endOf 7 [some (vr 12 l0), some (vi l1), none, some (vi l3)] [] h (fun r1 h1 => r1 = some (vi r) ∧ h1 = h') := by
  unfold F_X12_endOf_7b at hF
  refine ex_aload_n (q := 8) dX12_endOf_7 rfl rfl ?_
  obtain ⟨g1, hF⟩ := zg hF
  refine ex_get (q := 11) (v := vr 63 (gt h 12 l0 18)) 18 dX12_endOf_8 rfl fl_X12_50 g1 rfl rfl ?_
  refine ex_bipush (q := 13) dX12_endOf_11 rfl (by decide) ⟨by decide, by decide⟩ ?_
  refine ex_iload_n (q := 14) dX12_endOf_13 rfl rfl ?_
  refine ex_imul (q := 15) dX12_endOf_14 rfl ?_
  refine ex_iload_n (q := 16) dX12_endOf_15 rfl rfl ?_
  refine ex_iadd (q := 17) dX12_endOf_16 rfl ?_
  obtain ⟨g2, hF⟩ := zg hF
  obtain ⟨g3, hF⟩ := zg hF
  refine ex_iald (q := 18) dX12_endOf_17 rfl kd_63 g2 g3.1 g3.2 ?_
  refine ex_bipush (q := 20) dX12_endOf_18 rfl (by decide) ⟨by decide, by decide⟩ ?_
  refine ex_icmp_eq (q := 23) (tgt := 33) dX12_endOf_20 rfl (by decide) (fun c4 => ?_) (fun c4 => ?_)
  · have hF := ip c4 hF
    refine ex_iload_n (q := 34) dX12_endOf_33 rfl rfl ?_
    obtain ⟨rfl, rfl⟩ := zr hF
    exact ex_ret (some (vi l3)) rfl ⟨dX12_endOf_34, Or.inl rfl⟩ ⟨rfl, rfl⟩
  · have hF := im c4 hF
    refine ex_aload_n (q := 24) dX12_endOf_23 rfl rfl ?_
    refine ex_iload_n (q := 25) dX12_endOf_24 rfl rfl ?_
    refine ex_iload_n (q := 26) dX12_endOf_25 rfl rfl ?_
    obtain ⟨r5, h5, e5, hF⟩ := zb_some hF
    refine ex_callV (d' := 1) (q := 29) (as := [vi l1, vi l3]) (st1 := [vi r5]) (r := (some (vi r5))) (h2 := h5) dX12_endOf_26 rfl (run_X12_behind e5) mc_X12_behind mv_X12_behind ml_X12_213 (by decide) g1 rfl rfl (Nat.le_of_ble_eq_true rfl) rfl ?_
    refine ex_istore_n (q := 30) (lo' := [some (vr 12 l0), some (vi l1), none, some (vi r5)]) dX12_endOf_29 rfl (by decide) rfl rfl ?_
    refine ex_goto (q := 7) dX12_endOf_30 (by decide) ?_
    exact ex_forget (lo' := [some (vr 12 l0), some (vi l1), none, some (vi r5)]) ⟨Or.inr rfl, Or.inr rfl, Or.inl rfl, Or.inr rfl, trivial⟩ (hag7 _ _ _ _ _ _ hF)
def F_X12_endOf_7 : Nat → Int → Int → Int → zH → zO
  | 0, _, _, _, _ => none
  | n + 1, l0, l1, l3, h => F_X12_endOf_7b (F_X12_endOf_7 n) l0 l1 l3 h
theorem x_X12_endOf_7 : ∀ (n : Nat) (l0 l1 l3 : Int) (h : zH) (r : Int) (h' : zH), F_X12_endOf_7 n l0 l1 l3 h = some (r, h') → Ex 2 M_X12_endOf 7 [some (vr 12 l0), some (vi l1), none, some (vi l3)] [] h (fun r1 h1 => r1 = some (vi r) ∧ h1 = h')
  | 0, _, _, _, _, _, _, hF => by cases hF
  | n + 1, _, _, _, _, _, _, hF => x_X12_endOf_7b (x_X12_endOf_7 n) hF
def F_X12_endOf_0 (l0 l1 l2 : Int) (h : zH) : zO := if 0 ≤ l0 then (zb (F_X12_behind l0 l1 l2 h) (fun r1 h1 => F_X12_endOf_7 zF l0 l1 r1 h1)) else none
set_option maxHeartbeats 1000000 in
theorem x_X12_endOf_0 {l0 l1 l2 : Int} {h : zH} {r : Int} {h' : zH} (hF : F_X12_endOf_0 l0 l1 l2 h = some (r, h')) : Ex 2 M_X12_endOf 0 [some (vr 12 l0), some (vi l1), some (vi l2), none] [] h (fun r1 h1 => r1 = some (vi r) ∧ h1 = h') := by
  unfold F_X12_endOf_0 at hF
  refine ex_aload_n (q := 1) dX12_endOf_0 rfl rfl ?_
  refine ex_iload_n (q := 2) dX12_endOf_1 rfl rfl ?_
  refine ex_iload_n (q := 3) dX12_endOf_2 rfl rfl ?_
  obtain ⟨g2, hF⟩ := zg hF
  obtain ⟨r1, h1, e1, hF⟩ := zb_some hF
  refine ex_callV (d' := 1) (q := 6) (as := [vi l1, vi l2]) (st1 := [vi r1]) (r := (some (vi r1))) (h2 := h1) dX12_endOf_3 rfl (run_X12_behind e1) mc_X12_behind mv_X12_behind ml_X12_213 (by decide) g2 rfl rfl (Nat.le_of_ble_eq_true rfl) rfl ?_
  refine ex_istore_n (q := 7) (lo' := [some (vr 12 l0), some (vi l1), some (vi l2), some (vi r1)]) dX12_endOf_6 rfl (by decide) rfl rfl ?_
  exact ex_forget (lo' := [some (vr 12 l0), some (vi l1), none, some (vi r1)]) ⟨Or.inr rfl, Or.inr rfl, Or.inl rfl, Or.inr rfl, trivial⟩ (x_X12_endOf_7 _ _ _ _ _ _ _ hF)
def F_X12_endOf (l0 l1 l2 : Int) (h : zH) : zO := F_X12_endOf_0 l0 l1 l2 h
theorem run_X12_endOf {l0 l1 l2 : Int} {h : zH} {r : Int} {h' : zH} (hF : F_X12_endOf l0 l1 l2 h = some (r, h')) : Run 2 yX12_endOf cX12_endOf 4 (some .int) [vr 12 l0, vi l1, vi l2] h (some (vi r)) h' := run_of (M := M_X12_endOf) (by decide) rfl (fun z => by cases z) (Nat.le_of_ble_eq_true rfl) (x_X12_endOf_0 hF)
abbrev M_X12_leaveTry : zM := (RX12, (cX12_leaveTry, (4, (none, false))))
def F_X12_leaveTry_100 (l0 l1 l2 : Int) (h : zH) : zO := if 0 ≤ l0 then (if gt (pt h 12 l0 25 (wI ((gt h 12 l0 25) - 1))) 12 l0 52 ≠ 0 then (some (0, (pt h 12 l0 25 (wI ((gt h 12 l0 25) - 1))))) else (if 0 ≤ gt (pt h 12 l0 25 (wI ((gt h 12 l0 25) - 1))) 12 l0 27 then (if 0 ≤ l1 ∧ l1 < 150 then (zb (F_X12_endOf l0 l2 (gt (pt h 12 l0 25 (wI ((gt h 12 l0 25) - 1))) 69 (gt (pt h 12 l0 25 (wI ((gt h 12 l0 25) - 1))) 12 l0 27) l1) (pt h 12 l0 25 (wI ((gt h 12 l0 25) - 1)))) (fun r5 h5 => zb (F_X12_goTo l0 (wI (r5 + 1)) h5) (fun r6 h6 => some (0, h6)))) else none) else none)) else none
set_option maxHeartbeats 1000000 in
theorem x_X12_leaveTry_100 {l0 l1 l2 : Int} {h : zH} {r : Int} {h' : zH} (hF : F_X12_leaveTry_100 l0 l1 l2 h = some (r, h')) : Ex 5 M_X12_leaveTry 100 [some (vr 12 l0), some (vi l1), some (vi l2), none] [] h (fun r1 h1 => r1 = none ∧ h1 = h') := by
  unfold F_X12_leaveTry_100 at hF
  refine ex_aload_n (q := 101) dX12_leaveTry_100 rfl rfl ?_
  refine ex_dup (q := 102) dX12_leaveTry_101 rfl (fun _ z => by cases z) ?_
  obtain ⟨g1, hF⟩ := zg hF
  refine ex_get (q := 105) (v := vi (gt h 12 l0 25)) 25 dX12_leaveTry_102 rfl fl_X12_217 g1 rfl rfl ?_
  refine ex_iconst (q := 106) dX12_leaveTry_105 rfl ⟨by decide, by decide⟩ ?_
  refine ex_isub (q := 107) dX12_leaveTry_106 rfl ?_
  refine ex_put (q := 110) 25 dX12_leaveTry_107 rfl fl_X12_217 (by decide) g1 rfl rfl (fun z => by cases z) ?_
  refine ex_aload_n (q := 111) dX12_leaveTry_110 rfl rfl ?_
  refine ex_get (q := 114) (v := vi (gt (pt h 12 l0 25 (wI ((gt h 12 l0 25) - 1))) 12 l0 52)) 52 dX12_leaveTry_111 rfl fl_X12_255 g1 rfl rfl ?_
  refine ex_if_ne (q := 117) (tgt := 134) dX12_leaveTry_114 rfl (by decide) (fun c2 => ?_) (fun c2 => ?_)
  · have hF := ip c2 hF
    obtain ⟨rfl, rfl⟩ := zr hF
    exact ex_ret none rfl ⟨dX12_leaveTry_134, rfl⟩ ⟨rfl, rfl⟩
  · have hF := im c2 hF
    refine ex_aload_n (q := 118) dX12_leaveTry_117 rfl rfl ?_
    refine ex_aload_n (q := 119) dX12_leaveTry_118 rfl rfl ?_
    refine ex_iload_n (q := 120) dX12_leaveTry_119 rfl rfl ?_
    refine ex_aload_n (q := 121) dX12_leaveTry_120 rfl rfl ?_
    refine ex_get (q := 124) (v := vr 69 (gt (pt h 12 l0 25 (wI ((gt h 12 l0 25) - 1))) 12 l0 27)) 27 dX12_leaveTry_121 rfl fl_X12_69 g1 rfl rfl ?_
    refine ex_iload_n (q := 125) dX12_leaveTry_124 rfl rfl ?_
    obtain ⟨g3, hF⟩ := zg hF
    obtain ⟨g4, hF⟩ := zg hF
    refine ex_iald (q := 126) dX12_leaveTry_125 rfl kd_69 g3 g4.1 g4.2 ?_
    obtain ⟨r5, h5, e5, hF⟩ := zb_some hF
    refine ex_callV (d' := 2) (q := 129) (as := [vi l2, vi (gt (pt h 12 l0 25 (wI ((gt h 12 l0 25) - 1))) 69 (gt (pt h 12 l0 25 (wI ((gt h 12 l0 25) - 1))) 12 l0 27) l1)]) (st1 := [vi r5, vr 12 l0]) (r := (some (vi r5))) (h2 := h5) dX12_leaveTry_126 rfl (run_X12_endOf e5) mc_X12_endOf mv_X12_endOf ml_X12_297 (by decide) g1 rfl rfl (Nat.le_of_ble_eq_true rfl) rfl ?_
    refine ex_iconst (q := 130) dX12_leaveTry_129 rfl ⟨by decide, by decide⟩ ?_
    refine ex_iadd (q := 131) dX12_leaveTry_130 rfl ?_
    obtain ⟨r6, h6, e6, hF⟩ := zb_some hF
    refine ex_callV (d' := 0) (q := 134) (as := [vi (wI (r5 + 1))]) (st1 := []) (r := none) (h2 := h6) dX12_leaveTry_131 rfl (run_X12_goTo e6) mc_X12_goTo mv_X12_goTo ml_X12_230 (by decide) g1 rfl rfl (Nat.le_of_ble_eq_true rfl) rfl ?_
    obtain ⟨rfl, rfl⟩ := zr hF
    exact ex_ret none rfl ⟨dX12_leaveTry_134, rfl⟩ ⟨rfl, rfl⟩
def F_X12_leaveTry_0 (l0 : Int) (h : zH) : zO := if 0 ≤ l0 then (if 0 ≤ gt h 12 l0 28 then (if 0 ≤ gt h 12 l0 67 ∧ gt h 12 l0 67 < 150 then (if 0 ≤ gt h 12 l0 27 then (if 0 ≤ wI ((gt h 12 l0 25) - 1) ∧ wI ((gt h 12 l0 25) - 1) < 150 then (zb (F_X12_finishOf l0 (gt h 70 (gt h 12 l0 28) (gt h 12 l0 67)) (gt h 69 (gt h 12 l0 27) (wI ((gt h 12 l0 25) - 1))) h) (fun r6 h6 => if 0 ≤ gt h6 12 l0 28 then (if 2 ≤ gt h6 70 (gt h6 12 l0 28) (wI ((gt h 12 l0 25) - 1)) then (F_X12_leaveTry_100 l0 (wI ((gt h 12 l0 25) - 1)) (gt h 70 (gt h 12 l0 28) (gt h 12 l0 67)) h6) else (if r6 < 0 then (F_X12_leaveTry_100 l0 (wI ((gt h 12 l0 25) - 1)) (gt h 70 (gt h 12 l0 28) (gt h 12 l0 67)) h6) else (if 0 ≤ gt h6 12 l0 29 then (if 0 ≤ gt (pt h6 71 (gt h6 12 l0 29) (wI ((gt h 12 l0 25) - 1)) (gt h6 12 l0 52)) 12 l0 31 then (zl (pt (pt h6 71 (gt h6 12 l0 29) (wI ((gt h 12 l0 25) - 1)) (gt h6 12 l0 52)) 73 (gt (pt h6 71 (gt h6 12 l0 29) (wI ((gt h 12 l0 25) - 1)) (gt h6 12 l0 52)) 12 l0 31) (wI ((gt h 12 l0 25) - 1)) (gt (pt h6 71 (gt h6 12 l0 29) (wI ((gt h 12 l0 25) - 1)) (gt h6 12 l0 52)) 12 l0 53)) (fun k12 => if 0 ≤ gt k12 12 l0 28 then (zb (F_X12_step l0 (pt (pt k12 70 (gt k12 12 l0 28) (wI ((gt h 12 l0 25) - 1)) 2) 12 l0 52 0)) (fun r14 h14 => if r14 = 0 then (some (0, h14)) else (if 0 ≤ gt h14 12 l0 31 then (if 0 ≤ gt h14 12 l0 67 ∧ gt h14 12 l0 67 < 150 then (zb (F_X12_goTo l0 (wI (r6 + 1)) (pt h14 73 (gt h14 12 l0 31) (gt h14 12 l0 67) r6)) (fun r18 h18 => some (0, h18))) else none) else none))) else none)) else none) else none))) else none)) else none) else none) else none) else none) else none
set_option maxHeartbeats 1000000 in
theorem x_X12_leaveTry_0 {l0 : Int} {h : zH} {r : Int} {h' : zH} (hF : F_X12_leaveTry_0 l0 h = some (r, h')) : Ex 5 M_X12_leaveTry 0 [some (vr 12 l0), none, none, none] [] h (fun r1 h1 => r1 = none ∧ h1 = h') := by
  unfold F_X12_leaveTry_0 at hF
  refine ex_aload_n (q := 1) dX12_leaveTry_0 rfl rfl ?_
  obtain ⟨g1, hF⟩ := zg hF
  refine ex_get (q := 4) (v := vi (gt h 12 l0 25)) 25 dX12_leaveTry_1 rfl fl_X12_217 g1 rfl rfl ?_
  refine ex_iconst (q := 5) dX12_leaveTry_4 rfl ⟨by decide, by decide⟩ ?_
  refine ex_isub (q := 6) dX12_leaveTry_5 rfl ?_
  refine ex_istore_n (q := 7) (lo' := [some (vr 12 l0), some (vi (wI ((gt h 12 l0 25) - 1))), none, none]) dX12_leaveTry_6 rfl (by decide) rfl rfl ?_
  refine ex_aload_n (q := 8) dX12_leaveTry_7 rfl rfl ?_
  refine ex_get (q := 11) (v := vr 70 (gt h 12 l0 28)) 28 dX12_leaveTry_8 rfl fl_X12_72 g1 rfl rfl ?_
  refine ex_aload_n (q := 12) dX12_leaveTry_11 rfl rfl ?_
  refine ex_get (q := 15) (v := vi (gt h 12 l0 67)) 67 dX12_leaveTry_12 rfl fl_X12_220 g1 rfl rfl ?_
  obtain ⟨g2, hF⟩ := zg hF
  obtain ⟨g3, hF⟩ := zg hF
  refine ex_iald (q := 16) dX12_leaveTry_15 rfl kd_70 g2 g3.1 g3.2 ?_
  refine ex_istore_n (q := 17) (lo' := [some (vr 12 l0), some (vi (wI ((gt h 12 l0 25) - 1))), some (vi (gt h 70 (gt h 12 l0 28) (gt h 12 l0 67))), none]) dX12_leaveTry_16 rfl (by decide) rfl rfl ?_
  refine ex_aload_n (q := 18) dX12_leaveTry_17 rfl rfl ?_
  refine ex_iload_n (q := 19) dX12_leaveTry_18 rfl rfl ?_
  refine ex_aload_n (q := 20) dX12_leaveTry_19 rfl rfl ?_
  refine ex_get (q := 23) (v := vr 69 (gt h 12 l0 27)) 27 dX12_leaveTry_20 rfl fl_X12_69 g1 rfl rfl ?_
  refine ex_iload_n (q := 24) dX12_leaveTry_23 rfl rfl ?_
  obtain ⟨g4, hF⟩ := zg hF
  obtain ⟨g5, hF⟩ := zg hF
  refine ex_iald (q := 25) dX12_leaveTry_24 rfl kd_69 g4 g5.1 g5.2 ?_
  obtain ⟨r6, h6, e6, hF⟩ := zb_some hF
  refine ex_callV (d' := 2) (q := 28) (as := [vi (gt h 70 (gt h 12 l0 28) (gt h 12 l0 67)), vi (gt h 69 (gt h 12 l0 27) (wI ((gt h 12 l0 25) - 1)))]) (st1 := [vi r6]) (r := (some (vi r6))) (h2 := h6) dX12_leaveTry_25 rfl (run_X12_finishOf e6) mc_X12_finishOf mv_X12_finishOf ml_X12_290 (by decide) g1 rfl rfl (Nat.le_of_ble_eq_true rfl) rfl ?_
  refine ex_istore_n (q := 29) (lo' := [some (vr 12 l0), some (vi (wI ((gt h 12 l0 25) - 1))), some (vi (gt h 70 (gt h 12 l0 28) (gt h 12 l0 67))), some (vi r6)]) dX12_leaveTry_28 rfl (by decide) rfl rfl ?_
  refine ex_aload_n (q := 30) dX12_leaveTry_29 rfl rfl ?_
  refine ex_get (q := 33) (v := vr 70 (gt h6 12 l0 28)) 28 dX12_leaveTry_30 rfl fl_X12_72 g1 rfl rfl ?_
  refine ex_iload_n (q := 34) dX12_leaveTry_33 rfl rfl ?_
  obtain ⟨g7, hF⟩ := zg hF
  refine ex_iald (q := 35) dX12_leaveTry_34 rfl kd_70 g7 g5.1 g5.2 ?_
  refine ex_iconst (q := 36) dX12_leaveTry_35 rfl ⟨by decide, by decide⟩ ?_
  refine ex_icmp_ge (q := 39) (tgt := 100) dX12_leaveTry_36 rfl (by decide) (fun c8 => ?_) (fun c8 => ?_)
  · have hF := ip c8 hF
    exact ex_forget (lo' := [some (vr 12 l0), some (vi (wI ((gt h 12 l0 25) - 1))), some (vi (gt h 70 (gt h 12 l0 28) (gt h 12 l0 67))), none]) ⟨Or.inr rfl, Or.inr rfl, Or.inr rfl, Or.inl rfl, trivial⟩ (x_X12_leaveTry_100 hF)
  · have hF := im c8 hF
    refine ex_iload_n (q := 40) dX12_leaveTry_39 rfl rfl ?_
    refine ex_if_lt (q := 43) (tgt := 100) dX12_leaveTry_40 rfl (by decide) (fun c9 => ?_) (fun c9 => ?_)
    · have hF := ip c9 hF
      exact ex_forget (lo' := [some (vr 12 l0), some (vi (wI ((gt h 12 l0 25) - 1))), some (vi (gt h 70 (gt h 12 l0 28) (gt h 12 l0 67))), none]) ⟨Or.inr rfl, Or.inr rfl, Or.inr rfl, Or.inl rfl, trivial⟩ (x_X12_leaveTry_100 hF)
    · have hF := im c9 hF
      refine ex_aload_n (q := 44) dX12_leaveTry_43 rfl rfl ?_
      refine ex_get (q := 47) (v := vr 71 (gt h6 12 l0 29)) 29 dX12_leaveTry_44 rfl fl_X12_75 g1 rfl rfl ?_
      refine ex_iload_n (q := 48) dX12_leaveTry_47 rfl rfl ?_
      refine ex_aload_n (q := 49) dX12_leaveTry_48 rfl rfl ?_
      refine ex_get (q := 52) (v := vi (gt h6 12 l0 52)) 52 dX12_leaveTry_49 rfl fl_X12_255 g1 rfl rfl ?_
      obtain ⟨g10, hF⟩ := zg hF
      refine ex_iast (q := 53) dX12_leaveTry_52 rfl kd_71 g10 g5.1 g5.2 ?_
      refine ex_aload_n (q := 54) dX12_leaveTry_53 rfl rfl ?_
      refine ex_get (q := 57) (v := vr 73 (gt (pt h6 71 (gt h6 12 l0 29) (wI ((gt h 12 l0 25) - 1)) (gt h6 12 l0 52)) 12 l0 31)) 31 dX12_leaveTry_54 rfl fl_X12_81 g1 rfl rfl ?_
      refine ex_iload_n (q := 58) dX12_leaveTry_57 rfl rfl ?_
      refine ex_aload_n (q := 59) dX12_leaveTry_58 rfl rfl ?_
      refine ex_get (q := 62) (v := vi (gt (pt h6 71 (gt h6 12 l0 29) (wI ((gt h 12 l0 25) - 1)) (gt h6 12 l0 52)) 12 l0 53)) 53 dX12_leaveTry_59 rfl fl_X12_252 g1 rfl rfl ?_
      obtain ⟨g11, hF⟩ := zg hF
      refine ex_iast (q := 63) dX12_leaveTry_62 rfl kd_73 g11 g5.1 g5.2 ?_
      have hF := zl_e hF
      generalize pt (pt h6 71 (gt h6 12 l0 29) (wI ((gt h 12 l0 25) - 1)) (gt h6 12 l0 52)) 73 (gt (pt h6 71 (gt h6 12 l0 29) (wI ((gt h 12 l0 25) - 1)) (gt h6 12 l0 52)) 12 l0 31) (wI ((gt h 12 l0 25) - 1)) (gt (pt h6 71 (gt h6 12 l0 29) (wI ((gt h 12 l0 25) - 1)) (gt h6 12 l0 52)) 12 l0 53) = k12 at hF ⊢
      refine ex_aload_n (q := 64) dX12_leaveTry_63 rfl rfl ?_
      refine ex_get (q := 67) (v := vr 70 (gt k12 12 l0 28)) 28 dX12_leaveTry_64 rfl fl_X12_72 g1 rfl rfl ?_
      refine ex_iload_n (q := 68) dX12_leaveTry_67 rfl rfl ?_
      refine ex_iconst (q := 69) dX12_leaveTry_68 rfl ⟨by decide, by decide⟩ ?_
      obtain ⟨g13, hF⟩ := zg hF
      refine ex_iast (q := 70) dX12_leaveTry_69 rfl kd_70 g13 g5.1 g5.2 ?_
      refine ex_aload_n (q := 71) dX12_leaveTry_70 rfl rfl ?_
      refine ex_iconst (q := 72) dX12_leaveTry_71 rfl ⟨by decide, by decide⟩ ?_
      refine ex_put (q := 75) 52 dX12_leaveTry_72 rfl fl_X12_255 (by decide) g1 rfl rfl (fun z => by cases z) ?_
      refine ex_aload_n (q := 76) dX12_leaveTry_75 rfl rfl ?_
      obtain ⟨r14, h14, e14, hF⟩ := zb_some hF
      refine ex_callV (d' := 4) (q := 79) (as := []) (st1 := [vi r14]) (r := (some (vi r14))) (h2 := h14) dX12_leaveTry_76 rfl (run_X12_step e14) mc_X12_step mv_X12_step ml_X12_293 (by decide) g1 rfl rfl (Nat.le_of_ble_eq_true rfl) rfl ?_
      refine ex_if_eq (q := 82) (tgt := 99) dX12_leaveTry_79 rfl (by decide) (fun c15 => ?_) (fun c15 => ?_)
      · have hF := ip c15 hF
        obtain ⟨rfl, rfl⟩ := zr hF
        exact ex_ret none rfl ⟨dX12_leaveTry_99, rfl⟩ ⟨rfl, rfl⟩
      · have hF := im c15 hF
        refine ex_aload_n (q := 83) dX12_leaveTry_82 rfl rfl ?_
        refine ex_get (q := 86) (v := vr 73 (gt h14 12 l0 31)) 31 dX12_leaveTry_83 rfl fl_X12_81 g1 rfl rfl ?_
        refine ex_aload_n (q := 87) dX12_leaveTry_86 rfl rfl ?_
        refine ex_get (q := 90) (v := vi (gt h14 12 l0 67)) 67 dX12_leaveTry_87 rfl fl_X12_220 g1 rfl rfl ?_
        refine ex_iload_n (q := 91) dX12_leaveTry_90 rfl rfl ?_
        obtain ⟨g16, hF⟩ := zg hF
        obtain ⟨g17, hF⟩ := zg hF
        refine ex_iast (q := 92) dX12_leaveTry_91 rfl kd_73 g16 g17.1 g17.2 ?_
        refine ex_aload_n (q := 93) dX12_leaveTry_92 rfl rfl ?_
        refine ex_iload_n (q := 94) dX12_leaveTry_93 rfl rfl ?_
        refine ex_iconst (q := 95) dX12_leaveTry_94 rfl ⟨by decide, by decide⟩ ?_
        refine ex_iadd (q := 96) dX12_leaveTry_95 rfl ?_
        obtain ⟨r18, h18, e18, hF⟩ := zb_some hF
        refine ex_callV (d' := 0) (q := 99) (as := [vi (wI (r6 + 1))]) (st1 := []) (r := none) (h2 := h18) dX12_leaveTry_96 rfl (run_X12_goTo e18) mc_X12_goTo mv_X12_goTo ml_X12_230 (by decide) g1 rfl rfl (Nat.le_of_ble_eq_true rfl) rfl ?_
        obtain ⟨rfl, rfl⟩ := zr hF
        exact ex_ret none rfl ⟨dX12_leaveTry_99, rfl⟩ ⟨rfl, rfl⟩
def F_X12_leaveTry (l0 : Int) (h : zH) : zO := F_X12_leaveTry_0 l0 h
theorem run_X12_leaveTry {l0 : Int} {h : zH} {r : Int} {h' : zH} (hF : F_X12_leaveTry l0 h = some (r, h')) : Run 5 yX12_leaveTry cX12_leaveTry 4 none [vr 12 l0] h none h' := run_of (M := M_X12_leaveTry) (by decide) rfl (fun z => by cases z) (Nat.le_of_ble_eq_true rfl) (x_X12_leaveTry_0 hF)
abbrev M_X12_fail : zM := (RX12, (cX12_fail, (4, (none, false))))
def F_X12_fail_0 (l0 l1 l2 l3 : Int) (h : zH) : zO := if 0 ≤ l0 then (if gt h 12 l0 45 ≠ 16 then (zb (F_X12_newFailure l0 l1 l2 l3 h) (fun r3 h3 => some (0, (pt (pt h3 12 l0 53 r3) 12 l0 52 3)))) else (zb (F_X12_spend l0 h) (fun r4 h4 => some (0, h4)))) else none
set_option maxHeartbeats 1000000 in
theorem x_X12_fail_0 {l0 l1 l2 l3 : Int} {h : zH} {r : Int} {h' : zH} (hF : F_X12_fail_0 l0 l1 l2 l3 h = some (r, h')) : Ex 4 M_X12_fail 0 [some (vr 12 l0), some (vi l1), some (vi l2), some (vi l3)] [] h (fun r1 h1 => r1 = none ∧ h1 = h') := by
  unfold F_X12_fail_0 at hF
  refine ex_aload_n (q := 1) dX12_fail_0 rfl rfl ?_
  obtain ⟨g1, hF⟩ := zg hF
  refine ex_get (q := 4) (v := vi (gt h 12 l0 45)) 45 dX12_fail_1 rfl fl_X12_245 g1 rfl rfl ?_
  refine ex_bipush (q := 6) dX12_fail_4 rfl (by decide) ⟨by decide, by decide⟩ ?_
  refine ex_icmp_ne (q := 9) (tgt := 14) dX12_fail_6 rfl (by decide) (fun c2 => ?_) (fun c2 => ?_)
  · have hF := ip c2 hF
    refine ex_aload_n (q := 15) dX12_fail_14 rfl rfl ?_
    refine ex_aload_n (q := 16) dX12_fail_15 rfl rfl ?_
    refine ex_iload_n (q := 17) dX12_fail_16 rfl rfl ?_
    refine ex_iload_n (q := 18) dX12_fail_17 rfl rfl ?_
    refine ex_iload_n (q := 19) dX12_fail_18 rfl rfl ?_
    obtain ⟨r3, h3, e3, hF⟩ := zb_some hF
    refine ex_callV (d' := 0) (q := 22) (as := [vi l1, vi l2, vi l3]) (st1 := [vi r3, vr 12 l0]) (r := (some (vi r3))) (h2 := h3) dX12_fail_19 rfl (run_X12_newFailure e3) mc_X12_newFailure mv_X12_newFailure ml_X12_248 (by decide) g1 rfl rfl (Nat.le_of_ble_eq_true rfl) rfl ?_
    refine ex_put (q := 25) 53 dX12_fail_22 rfl fl_X12_252 (by decide) g1 rfl rfl (fun z => by cases z) ?_
    refine ex_aload_n (q := 26) dX12_fail_25 rfl rfl ?_
    refine ex_iconst (q := 27) dX12_fail_26 rfl ⟨by decide, by decide⟩ ?_
    refine ex_put (q := 30) 52 dX12_fail_27 rfl fl_X12_255 (by decide) g1 rfl rfl (fun z => by cases z) ?_
    obtain ⟨rfl, rfl⟩ := zr hF
    exact ex_ret none rfl ⟨dX12_fail_30, rfl⟩ ⟨rfl, rfl⟩
  · have hF := im c2 hF
    refine ex_aload_n (q := 10) dX12_fail_9 rfl rfl ?_
    obtain ⟨r4, h4, e4, hF⟩ := zb_some hF
    refine ex_callV (d' := 3) (q := 13) (as := []) (st1 := []) (r := none) (h2 := h4) dX12_fail_10 rfl (run_X12_spend e4) mc_X12_spend mv_X12_spend ml_X12_242 (by decide) g1 rfl rfl (Nat.le_of_ble_eq_true rfl) rfl ?_
    obtain ⟨rfl, rfl⟩ := zr hF
    exact ex_ret none rfl ⟨dX12_fail_13, rfl⟩ ⟨rfl, rfl⟩
def F_X12_fail (l0 l1 l2 l3 : Int) (h : zH) : zO := F_X12_fail_0 l0 l1 l2 l3 h
theorem run_X12_fail {l0 l1 l2 l3 : Int} {h : zH} {r : Int} {h' : zH} (hF : F_X12_fail l0 l1 l2 l3 h = some (r, h')) : Run 4 yX12_fail cX12_fail 4 none [vr 12 l0, vi l1, vi l2, vi l3] h none h' := run_of (M := M_X12_fail) (by decide) rfl (fun z => by cases z) (Nat.le_of_ble_eq_true rfl) (x_X12_fail_0 hF)
abbrev M_X12_innermost : zM := (RX12, (cX12_innermost, (4, ((some .int), false))))
def F_X12_innermost_9b (ag9 : Int → Int → Int → zH → zO) (l0 l2 l3 : Int) (h : zH) : zO := if l3 < 0 then (some ((-1), h)) else (if 0 ≤ l0 then (if 0 ≤ gt h 12 l0 26 then (if 0 ≤ l3 ∧ l3 < 150 then (if gt h 68 (gt h 12 l0 26) l3 ≠ 12 then (ag9 l0 l2 (wI (l3 + (-1))) h) else (if l2 ≠ 0 then (ag9 l0 (wI (l2 + (-1))) (wI (l3 + (-1))) h) else (if 0 ≤ gt h 12 l0 28 then (some (gt h 70 (gt h 12 l0 28) l3, h)) else none))) else none) else none) else none)
set_option maxHeartbeats 1000000 in
theorem x_X12_innermost_9b {ag9 : Int → Int → Int → zH → zO} (hag9 : ∀ (l0 l2 l3 : Int) (h : zH) (r : Int) (h' : zH), ag9 l0 l2 l3 h = some (r, h') → Ex 0 M_X12_innermost 9 [some (vr 12 l0), none, some (vi l2), some (vi l3)] [] h (fun r1 h1 => r1 = some (vi r) ∧ h1 = h')) {l0 l2 l3 : Int} {h : zH} {r : Int} {h' : zH} (hF : F_X12_innermost_9b ag9 l0 l2 l3 h = some (r, h')) : Ex 0 M_X12_innermost 9 [some (vr 12 l0), none, some (vi l2), some (vi l3)] [] h (fun r1 h1 => r1 = some (vi r) ∧ h1 = h') := by
  unfold F_X12_innermost_9b at hF
  refine ex_iload_n (q := 10) dX12_innermost_9 rfl rfl ?_
  refine ex_if_lt (q := 13) (tgt := 44) dX12_innermost_10 rfl (by decide) (fun c1 => ?_) (fun c1 => ?_)
  · have hF := ip c1 hF
    refine ex_iconst (q := 45) dX12_innermost_44 rfl ⟨by decide, by decide⟩ ?_
    obtain ⟨rfl, rfl⟩ := zr hF
    exact ex_ret (some (vi (-1))) rfl ⟨dX12_innermost_45, Or.inl rfl⟩ ⟨rfl, rfl⟩
  · have hF := im c1 hF
    refine ex_aload_n (q := 14) dX12_innermost_13 rfl rfl ?_
    obtain ⟨g2, hF⟩ := zg hF
    refine ex_get (q := 17) (v := vr 68 (gt h 12 l0 26)) 26 dX12_innermost_14 rfl fl_X12_66 g2 rfl rfl ?_
    refine ex_iload_n (q := 18) dX12_innermost_17 rfl rfl ?_
    obtain ⟨g3, hF⟩ := zg hF
    obtain ⟨g4, hF⟩ := zg hF
    refine ex_iald (q := 19) dX12_innermost_18 rfl kd_68 g3 g4.1 g4.2 ?_
    refine ex_bipush (q := 21) dX12_innermost_19 rfl (by decide) ⟨by decide, by decide⟩ ?_
    refine ex_icmp_ne (q := 24) (tgt := 38) dX12_innermost_21 rfl (by decide) (fun c5 => ?_) (fun c5 => ?_)
    · have hF := ip c5 hF
      refine ex_iinc (q := 41) (lo' := [some (vr 12 l0), none, some (vi l2), some (vi (wI (l3 + (-1))))]) dX12_innermost_38 rfl rfl (by decide) rfl rfl ?_
      refine ex_goto (q := 9) dX12_innermost_41 (by decide) ?_
      exact ex_forget (lo' := [some (vr 12 l0), none, some (vi l2), some (vi (wI (l3 + (-1))))]) ⟨Or.inr rfl, Or.inl rfl, Or.inr rfl, Or.inr rfl, trivial⟩ (hag9 _ _ _ _ _ _ hF)
    · have hF := im c5 hF
      refine ex_iload_n (q := 25) dX12_innermost_24 rfl rfl ?_
      refine ex_if_ne (q := 28) (tgt := 35) dX12_innermost_25 rfl (by decide) (fun c6 => ?_) (fun c6 => ?_)
      · have hF := ip c6 hF
        refine ex_iinc (q := 38) (lo' := [some (vr 12 l0), none, some (vi (wI (l2 + (-1)))), some (vi l3)]) dX12_innermost_35 rfl rfl (by decide) rfl rfl ?_
        refine ex_iinc (q := 41) (lo' := [some (vr 12 l0), none, some (vi (wI (l2 + (-1)))), some (vi (wI (l3 + (-1))))]) dX12_innermost_38 rfl rfl (by decide) rfl rfl ?_
        refine ex_goto (q := 9) dX12_innermost_41 (by decide) ?_
        exact ex_forget (lo' := [some (vr 12 l0), none, some (vi (wI (l2 + (-1)))), some (vi (wI (l3 + (-1))))]) ⟨Or.inr rfl, Or.inl rfl, Or.inr rfl, Or.inr rfl, trivial⟩ (hag9 _ _ _ _ _ _ hF)
      · have hF := im c6 hF
        refine ex_aload_n (q := 29) dX12_innermost_28 rfl rfl ?_
        refine ex_get (q := 32) (v := vr 70 (gt h 12 l0 28)) 28 dX12_innermost_29 rfl fl_X12_72 g2 rfl rfl ?_
        refine ex_iload_n (q := 33) dX12_innermost_32 rfl rfl ?_
        obtain ⟨g7, hF⟩ := zg hF
        refine ex_iald (q := 34) dX12_innermost_33 rfl kd_70 g7 g4.1 g4.2 ?_
        obtain ⟨rfl, rfl⟩ := zr hF
        exact ex_ret (some (vi (gt h 70 (gt h 12 l0 28) l3))) rfl ⟨dX12_innermost_34, Or.inl rfl⟩ ⟨rfl, rfl⟩
def F_X12_innermost_9 : Nat → Int → Int → Int → zH → zO
  | 0, _, _, _, _ => none
  | n + 1, l0, l2, l3, h => F_X12_innermost_9b (F_X12_innermost_9 n) l0 l2 l3 h
theorem x_X12_innermost_9 : ∀ (n : Nat) (l0 l2 l3 : Int) (h : zH) (r : Int) (h' : zH), F_X12_innermost_9 n l0 l2 l3 h = some (r, h') → Ex 0 M_X12_innermost 9 [some (vr 12 l0), none, some (vi l2), some (vi l3)] [] h (fun r1 h1 => r1 = some (vi r) ∧ h1 = h')
  | 0, _, _, _, _, _, _, hF => by cases hF
  | n + 1, _, _, _, _, _, _, hF => x_X12_innermost_9b (x_X12_innermost_9 n) hF
def F_X12_innermost_0 (l0 l1 : Int) (h : zH) : zO := if 0 ≤ l0 then (F_X12_innermost_9 zF l0 l1 (wI ((gt h 12 l0 25) - 1)) h) else none
set_option maxHeartbeats 1000000 in
theorem x_X12_innermost_0 {l0 l1 : Int} {h : zH} {r : Int} {h' : zH} (hF : F_X12_innermost_0 l0 l1 h = some (r, h')) : Ex 0 M_X12_innermost 0 [some (vr 12 l0), some (vi l1), none, none] [] h (fun r1 h1 => r1 = some (vi r) ∧ h1 = h') := by
  unfold F_X12_innermost_0 at hF
  refine ex_iload_n (q := 1) dX12_innermost_0 rfl rfl ?_
  refine ex_istore_n (q := 2) (lo' := [some (vr 12 l0), some (vi l1), some (vi l1), none]) dX12_innermost_1 rfl (by decide) rfl rfl ?_
  refine ex_aload_n (q := 3) dX12_innermost_2 rfl rfl ?_
  obtain ⟨g1, hF⟩ := zg hF
  refine ex_get (q := 6) (v := vi (gt h 12 l0 25)) 25 dX12_innermost_3 rfl fl_X12_217 g1 rfl rfl ?_
  refine ex_iconst (q := 7) dX12_innermost_6 rfl ⟨by decide, by decide⟩ ?_
  refine ex_isub (q := 8) dX12_innermost_7 rfl ?_
  refine ex_istore_n (q := 9) (lo' := [some (vr 12 l0), some (vi l1), some (vi l1), some (vi (wI ((gt h 12 l0 25) - 1)))]) dX12_innermost_8 rfl (by decide) rfl rfl ?_
  exact ex_forget (lo' := [some (vr 12 l0), none, some (vi l1), some (vi (wI ((gt h 12 l0 25) - 1)))]) ⟨Or.inr rfl, Or.inl rfl, Or.inr rfl, Or.inr rfl, trivial⟩ (x_X12_innermost_9 _ _ _ _ _ _ _ hF)
def F_X12_innermost (l0 l1 : Int) (h : zH) : zO := F_X12_innermost_0 l0 l1 h
theorem run_X12_innermost {l0 l1 : Int} {h : zH} {r : Int} {h' : zH} (hF : F_X12_innermost l0 l1 h = some (r, h')) : Run 0 yX12_innermost cX12_innermost 4 (some .int) [vr 12 l0, vi l1] h (some (vi r)) h' := run_of (M := M_X12_innermost) (by decide) rfl (fun z => by cases z) (Nat.le_of_ble_eq_true rfl) (x_X12_innermost_0 hF)
abbrev M_X12_newLoan : zM := (RX12, (cX12_newLoan, (5, ((some .int), false))))
def F_X12_newLoan_0 (l0 l1 l2 l3 : Int) (h : zH) : zO := if 0 ≤ l0 then (if 0 ≤ gt h 12 l0 35 then (if 0 ≤ gt h 12 l0 34 ∧ gt h 12 l0 34 < 180 then (if 0 ≤ gt (pt h 75 (gt h 12 l0 35) (gt h 12 l0 34) l1) 12 l0 36 then (zl (pt (pt h 75 (gt h 12 l0 35) (gt h 12 l0 34) l1) 76 (gt (pt h 75 (gt h 12 l0 35) (gt h 12 l0 34) l1) 12 l0 36) (gt h 12 l0 34) l2) (fun k5 => if 0 ≤ gt k5 12 l0 37 then (if 0 ≤ gt (pt k5 77 (gt k5 12 l0 37) (gt h 12 l0 34) l3) 12 l0 40 then (zl (pt (pt k5 77 (gt k5 12 l0 37) (gt h 12 l0 34) l3) 80 (gt (pt k5 77 (gt k5 12 l0 37) (gt h 12 l0 34) l3) 12 l0 40) (gt h 12 l0 34) 1) (fun k8 => zb (F_X12_innermost l0 0 k8) (fun r9 h9 => if 0 ≤ gt k8 12 l0 38 then (if 0 ≤ gt (pt h9 78 (gt k8 12 l0 38) (gt h 12 l0 34) r9) 12 l0 39 then (zl (pt (pt h9 78 (gt k8 12 l0 38) (gt h 12 l0 34) r9) 79 (gt (pt h9 78 (gt k8 12 l0 38) (gt h 12 l0 34) r9) 12 l0 39) (gt h 12 l0 34) (gt (pt h9 78 (gt k8 12 l0 38) (gt h 12 l0 34) r9) 12 l0 43)) (fun k12 => zl (pt (pt k12 12 l0 43 (wI ((gt k12 12 l0 43) + 1))) 12 l0 34 (wI ((gt (pt k12 12 l0 43 (wI ((gt k12 12 l0 43) + 1))) 12 l0 34) + 1))) (fun k13 => if l2 = 2 then (some (gt h 12 l0 34, (pt k13 12 l0 56 (wI ((gt k13 12 l0 56) + 1))))) else (if 0 ≤ gt (pt k13 12 l0 56 (wI ((gt k13 12 l0 56) + 1))) 12 l0 3 then (if 0 ≤ l1 ∧ l1 < 60 then (some (gt h 12 l0 34, (pt (pt k13 12 l0 56 (wI ((gt k13 12 l0 56) + 1))) 52 (gt (pt k13 12 l0 56 (wI ((gt k13 12 l0 56) + 1))) 12 l0 3) l1 1))) else none) else none)))) else none) else none))) else none) else none)) else none) else none) else none) else none
set_option maxHeartbeats 1000000 in
theorem x_X12_newLoan_0 {l0 l1 l2 l3 : Int} {h : zH} {r : Int} {h' : zH} (hF : F_X12_newLoan_0 l0 l1 l2 l3 h = some (r, h')) : Ex 1 M_X12_newLoan 0 [some (vr 12 l0), some (vi l1), some (vi l2), some (vi l3), none] [] h (fun r1 h1 => r1 = some (vi r) ∧ h1 = h') := by
  unfold F_X12_newLoan_0 at hF
  refine ex_aload_n (q := 1) dX12_newLoan_0 rfl rfl ?_
  obtain ⟨g1, hF⟩ := zg hF
  refine ex_get (q := 4) (v := vi (gt h 12 l0 34)) 34 dX12_newLoan_1 rfl fl_X12_258 g1 rfl rfl ?_
  refine ex_istore (q := 6) (lo' := [some (vr 12 l0), some (vi l1), some (vi l2), some (vi l3), some (vi (gt h 12 l0 34))]) dX12_newLoan_4 rfl (by decide) rfl rfl ?_
  refine ex_aload_n (q := 7) dX12_newLoan_6 rfl rfl ?_
  refine ex_get (q := 10) (v := vr 75 (gt h 12 l0 35)) 35 dX12_newLoan_7 rfl fl_X12_87 g1 rfl rfl ?_
  refine ex_iload (q := 12) dX12_newLoan_10 rfl rfl ?_
  refine ex_iload_n (q := 13) dX12_newLoan_12 rfl rfl ?_
  obtain ⟨g2, hF⟩ := zg hF
  obtain ⟨g3, hF⟩ := zg hF
  refine ex_iast (q := 14) dX12_newLoan_13 rfl kd_75 g2 g3.1 g3.2 ?_
  refine ex_aload_n (q := 15) dX12_newLoan_14 rfl rfl ?_
  refine ex_get (q := 18) (v := vr 76 (gt (pt h 75 (gt h 12 l0 35) (gt h 12 l0 34) l1) 12 l0 36)) 36 dX12_newLoan_15 rfl fl_X12_90 g1 rfl rfl ?_
  refine ex_iload (q := 20) dX12_newLoan_18 rfl rfl ?_
  refine ex_iload_n (q := 21) dX12_newLoan_20 rfl rfl ?_
  obtain ⟨g4, hF⟩ := zg hF
  refine ex_iast (q := 22) dX12_newLoan_21 rfl kd_76 g4 g3.1 g3.2 ?_
  have hF := zl_e hF
  generalize pt (pt h 75 (gt h 12 l0 35) (gt h 12 l0 34) l1) 76 (gt (pt h 75 (gt h 12 l0 35) (gt h 12 l0 34) l1) 12 l0 36) (gt h 12 l0 34) l2 = k5 at hF ⊢
  refine ex_aload_n (q := 23) dX12_newLoan_22 rfl rfl ?_
  refine ex_get (q := 26) (v := vr 77 (gt k5 12 l0 37)) 37 dX12_newLoan_23 rfl fl_X12_93 g1 rfl rfl ?_
  refine ex_iload (q := 28) dX12_newLoan_26 rfl rfl ?_
  refine ex_iload_n (q := 29) dX12_newLoan_28 rfl rfl ?_
  obtain ⟨g6, hF⟩ := zg hF
  refine ex_iast (q := 30) dX12_newLoan_29 rfl kd_77 g6 g3.1 g3.2 ?_
  refine ex_aload_n (q := 31) dX12_newLoan_30 rfl rfl ?_
  refine ex_get (q := 34) (v := vr 80 (gt (pt k5 77 (gt k5 12 l0 37) (gt h 12 l0 34) l3) 12 l0 40)) 40 dX12_newLoan_31 rfl fl_X12_102 g1 rfl rfl ?_
  refine ex_iload (q := 36) dX12_newLoan_34 rfl rfl ?_
  refine ex_iconst (q := 37) dX12_newLoan_36 rfl ⟨by decide, by decide⟩ ?_
  obtain ⟨g7, hF⟩ := zg hF
  refine ex_bast (q := 38) dX12_newLoan_37 rfl kd_80 g7 g3.1 g3.2 (by decide) ?_
  have hF := zl_e hF
  generalize pt (pt k5 77 (gt k5 12 l0 37) (gt h 12 l0 34) l3) 80 (gt (pt k5 77 (gt k5 12 l0 37) (gt h 12 l0 34) l3) 12 l0 40) (gt h 12 l0 34) 1 = k8 at hF ⊢
  refine ex_aload_n (q := 39) dX12_newLoan_38 rfl rfl ?_
  refine ex_get (q := 42) (v := vr 78 (gt k8 12 l0 38)) 38 dX12_newLoan_39 rfl fl_X12_96 g1 rfl rfl ?_
  refine ex_iload (q := 44) dX12_newLoan_42 rfl rfl ?_
  refine ex_aload_n (q := 45) dX12_newLoan_44 rfl rfl ?_
  refine ex_iconst (q := 46) dX12_newLoan_45 rfl ⟨by decide, by decide⟩ ?_
  obtain ⟨r9, h9, e9, hF⟩ := zb_some hF
  refine ex_callV (d' := 0) (q := 49) (as := [vi 0]) (st1 := [vi r9, vi (gt h 12 l0 34), vr 78 (gt k8 12 l0 38)]) (r := (some (vi r9))) (h2 := h9) dX12_newLoan_46 rfl (run_X12_innermost e9) mc_X12_innermost mv_X12_innermost ml_X12_321 (by decide) g1 rfl rfl (Nat.le_of_ble_eq_true rfl) rfl ?_
  obtain ⟨g10, hF⟩ := zg hF
  refine ex_iast (q := 50) dX12_newLoan_49 rfl kd_78 g10 g3.1 g3.2 ?_
  refine ex_aload_n (q := 51) dX12_newLoan_50 rfl rfl ?_
  refine ex_get (q := 54) (v := vr 79 (gt (pt h9 78 (gt k8 12 l0 38) (gt h 12 l0 34) r9) 12 l0 39)) 39 dX12_newLoan_51 rfl fl_X12_99 g1 rfl rfl ?_
  refine ex_iload (q := 56) dX12_newLoan_54 rfl rfl ?_
  refine ex_aload_n (q := 57) dX12_newLoan_56 rfl rfl ?_
  refine ex_get (q := 60) (v := vi (gt (pt h9 78 (gt k8 12 l0 38) (gt h 12 l0 34) r9) 12 l0 43)) 43 dX12_newLoan_57 rfl fl_X12_324 g1 rfl rfl ?_
  obtain ⟨g11, hF⟩ := zg hF
  refine ex_iast (q := 61) dX12_newLoan_60 rfl kd_79 g11 g3.1 g3.2 ?_
  have hF := zl_e hF
  generalize pt (pt h9 78 (gt k8 12 l0 38) (gt h 12 l0 34) r9) 79 (gt (pt h9 78 (gt k8 12 l0 38) (gt h 12 l0 34) r9) 12 l0 39) (gt h 12 l0 34) (gt (pt h9 78 (gt k8 12 l0 38) (gt h 12 l0 34) r9) 12 l0 43) = k12 at hF ⊢
  refine ex_aload_n (q := 62) dX12_newLoan_61 rfl rfl ?_
  refine ex_dup (q := 63) dX12_newLoan_62 rfl (fun _ z => by cases z) ?_
  refine ex_get (q := 66) (v := vi (gt k12 12 l0 43)) 43 dX12_newLoan_63 rfl fl_X12_324 g1 rfl rfl ?_
  refine ex_iconst (q := 67) dX12_newLoan_66 rfl ⟨by decide, by decide⟩ ?_
  refine ex_iadd (q := 68) dX12_newLoan_67 rfl ?_
  refine ex_put (q := 71) 43 dX12_newLoan_68 rfl fl_X12_324 (by decide) g1 rfl rfl (fun z => by cases z) ?_
  refine ex_aload_n (q := 72) dX12_newLoan_71 rfl rfl ?_
  refine ex_dup (q := 73) dX12_newLoan_72 rfl (fun _ z => by cases z) ?_
  refine ex_get (q := 76) (v := vi (gt (pt k12 12 l0 43 (wI ((gt k12 12 l0 43) + 1))) 12 l0 34)) 34 dX12_newLoan_73 rfl fl_X12_258 g1 rfl rfl ?_
  refine ex_iconst (q := 77) dX12_newLoan_76 rfl ⟨by decide, by decide⟩ ?_
  refine ex_iadd (q := 78) dX12_newLoan_77 rfl ?_
  refine ex_put (q := 81) 34 dX12_newLoan_78 rfl fl_X12_258 (by decide) g1 rfl rfl (fun z => by cases z) ?_
  have hF := zl_e hF
  generalize pt (pt k12 12 l0 43 (wI ((gt k12 12 l0 43) + 1))) 12 l0 34 (wI ((gt (pt k12 12 l0 43 (wI ((gt k12 12 l0 43) + 1))) 12 l0 34) + 1)) = k13 at hF ⊢
  refine ex_aload_n (q := 82) dX12_newLoan_81 rfl rfl ?_
  refine ex_dup (q := 83) dX12_newLoan_82 rfl (fun _ z => by cases z) ?_
  refine ex_get (q := 86) (v := vi (gt k13 12 l0 56)) 56 dX12_newLoan_83 rfl fl_X12_327 g1 rfl rfl ?_
  refine ex_iconst (q := 87) dX12_newLoan_86 rfl ⟨by decide, by decide⟩ ?_
  refine ex_iadd (q := 88) dX12_newLoan_87 rfl ?_
  refine ex_put (q := 91) 56 dX12_newLoan_88 rfl fl_X12_327 (by decide) g1 rfl rfl (fun z => by cases z) ?_
  refine ex_iload_n (q := 92) dX12_newLoan_91 rfl rfl ?_
  refine ex_iconst (q := 93) dX12_newLoan_92 rfl ⟨by decide, by decide⟩ ?_
  refine ex_icmp_eq (q := 96) (tgt := 103) dX12_newLoan_93 rfl (by decide) (fun c14 => ?_) (fun c14 => ?_)
  · have hF := ip c14 hF
    refine ex_iload (q := 105) dX12_newLoan_103 rfl rfl ?_
    obtain ⟨rfl, rfl⟩ := zr hF
    exact ex_ret (some (vi (gt h 12 l0 34))) rfl ⟨dX12_newLoan_105, Or.inl rfl⟩ ⟨rfl, rfl⟩
  · have hF := im c14 hF
    refine ex_aload_n (q := 97) dX12_newLoan_96 rfl rfl ?_
    refine ex_get (q := 100) (v := vr 52 (gt (pt k13 12 l0 56 (wI ((gt k13 12 l0 56) + 1))) 12 l0 3)) 3 dX12_newLoan_97 rfl fl_X12_16 g1 rfl rfl ?_
    refine ex_iload_n (q := 101) dX12_newLoan_100 rfl rfl ?_
    refine ex_iconst (q := 102) dX12_newLoan_101 rfl ⟨by decide, by decide⟩ ?_
    obtain ⟨g15, hF⟩ := zg hF
    obtain ⟨g16, hF⟩ := zg hF
    refine ex_iast (q := 103) dX12_newLoan_102 rfl kd_52 g15 g16.1 g16.2 ?_
    refine ex_iload (q := 105) dX12_newLoan_103 rfl rfl ?_
    obtain ⟨rfl, rfl⟩ := zr hF
    exact ex_ret (some (vi (gt h 12 l0 34))) rfl ⟨dX12_newLoan_105, Or.inl rfl⟩ ⟨rfl, rfl⟩
def F_X12_newLoan (l0 l1 l2 l3 : Int) (h : zH) : zO := F_X12_newLoan_0 l0 l1 l2 l3 h
theorem run_X12_newLoan {l0 l1 l2 l3 : Int} {h : zH} {r : Int} {h' : zH} (hF : F_X12_newLoan l0 l1 l2 l3 h = some (r, h')) : Run 1 yX12_newLoan cX12_newLoan 5 (some .int) [vr 12 l0, vi l1, vi l2, vi l3] h (some (vi r)) h' := run_of (M := M_X12_newLoan) (by decide) rfl (fun z => by cases z) (Nat.le_of_ble_eq_true rfl) (x_X12_newLoan_0 hF)
abbrev M_X12_trace : zM := (RX12, (cX12_trace, (4, (none, false))))
def F_X12_trace_4b (ag4 : Int → Int → Int → Int → zH → zO) (l0 l1 l2 l3 : Int) (h : zH) : zO := if 0 ≤ l0 then (if gt h 12 l0 25 ≤ l3 then (if 0 ≤ gt h 12 l0 41 then (if 0 ≤ l1 ∧ l1 < 180 then (some (0, (pt h 81 (gt h 12 l0 41) l1 l2))) else none) else none) else (if 0 ≤ gt h 12 l0 26 then (if 0 ≤ l3 ∧ l3 < 150 then (if gt h 68 (gt h 12 l0 26) l3 ≠ 17 then (ag4 l0 l1 l2 (wI (l3 + 1)) h) else (if 0 ≤ gt h 12 l0 28 then (if 0 ≤ gt h 12 l0 42 then (if 0 ≤ wI ((wI (20 * l1)) + (wI (2 * l2))) ∧ wI ((wI (20 * l1)) + (wI (2 * l2))) < 3600 then (if 0 ≤ gt (pt h 82 (gt h 12 l0 42) (wI ((wI (20 * l1)) + (wI (2 * l2)))) (gt h 70 (gt h 12 l0 28) l3)) 12 l0 31 then (if 0 ≤ gt (pt h 82 (gt h 12 l0 42) (wI ((wI (20 * l1)) + (wI (2 * l2)))) (gt h 70 (gt h 12 l0 28) l3)) 12 l0 42 then (if 0 ≤ wI ((wI ((wI (20 * l1)) + (wI (2 * l2)))) + 1) ∧ wI ((wI ((wI (20 * l1)) + (wI (2 * l2)))) + 1) < 3600 then (zl (pt (pt h 82 (gt h 12 l0 42) (wI ((wI (20 * l1)) + (wI (2 * l2)))) (gt h 70 (gt h 12 l0 28) l3)) 82 (gt (pt h 82 (gt h 12 l0 42) (wI ((wI (20 * l1)) + (wI (2 * l2)))) (gt h 70 (gt h 12 l0 28) l3)) 12 l0 42) (wI ((wI ((wI (20 * l1)) + (wI (2 * l2)))) + 1)) (gt (pt h 82 (gt h 12 l0 42) (wI ((wI (20 * l1)) + (wI (2 * l2)))) (gt h 70 (gt h 12 l0 28) l3)) 73 (gt (pt h 82 (gt h 12 l0 42) (wI ((wI (20 * l1)) + (wI (2 * l2)))) (gt h 70 (gt h 12 l0 28) l3)) 12 l0 31) l3)) (fun k14 => ag4 l0 l1 (wI (l2 + 1)) (wI (l3 + 1)) k14)) else none) else none) else none) else none) else none) else none)) else none) else none)) else none
set_option maxHeartbeats 1000000 in
theorem x_X12_trace_4b {ag4 : Int → Int → Int → Int → zH → zO} (hag4 : ∀ (l0 l1 l2 l3 : Int) (h : zH) (r : Int) (h' : zH), ag4 l0 l1 l2 l3 h = some (r, h') → Ex 0 M_X12_trace 4 [some (vr 12 l0), some (vi l1), some (vi l2), some (vi l3)] [] h (fun r1 h1 => r1 = none ∧ h1 = h')) {l0 l1 l2 l3 : Int} {h : zH} {r : Int} {h' : zH} (hF : F_X12_trace_4b ag4 l0 l1 l2 l3 h = some (r, h')) : Ex 0 M_X12_trace 4 [some (vr 12 l0), some (vi l1), some (vi l2), some (vi l3)] [] h (fun r1 h1 => r1 = none ∧ h1 = h') := by
  unfold F_X12_trace_4b at hF
  refine ex_iload_n (q := 5) dX12_trace_4 rfl rfl ?_
  refine ex_aload_n (q := 6) dX12_trace_5 rfl rfl ?_
  obtain ⟨g1, hF⟩ := zg hF
  refine ex_get (q := 9) (v := vi (gt h 12 l0 25)) 25 dX12_trace_6 rfl fl_X12_217 g1 rfl rfl ?_
  refine ex_icmp_ge (q := 12) (tgt := 72) dX12_trace_9 rfl (by decide) (fun c2 => ?_) (fun c2 => ?_)
  · have hF := ip c2 hF
    refine ex_aload_n (q := 73) dX12_trace_72 rfl rfl ?_
    refine ex_get (q := 76) (v := vr 81 (gt h 12 l0 41)) 41 dX12_trace_73 rfl fl_X12_105 g1 rfl rfl ?_
    refine ex_iload_n (q := 77) dX12_trace_76 rfl rfl ?_
    refine ex_iload_n (q := 78) dX12_trace_77 rfl rfl ?_
    obtain ⟨g3, hF⟩ := zg hF
    obtain ⟨g4, hF⟩ := zg hF
    refine ex_iast (q := 79) dX12_trace_78 rfl kd_81 g3 g4.1 g4.2 ?_
    obtain ⟨rfl, rfl⟩ := zr hF
    exact ex_ret none rfl ⟨dX12_trace_79, rfl⟩ ⟨rfl, rfl⟩
  · have hF := im c2 hF
    refine ex_aload_n (q := 13) dX12_trace_12 rfl rfl ?_
    refine ex_get (q := 16) (v := vr 68 (gt h 12 l0 26)) 26 dX12_trace_13 rfl fl_X12_66 g1 rfl rfl ?_
    refine ex_iload_n (q := 17) dX12_trace_16 rfl rfl ?_
    obtain ⟨g5, hF⟩ := zg hF
    obtain ⟨g6, hF⟩ := zg hF
    refine ex_iald (q := 18) dX12_trace_17 rfl kd_68 g5 g6.1 g6.2 ?_
    refine ex_bipush (q := 20) dX12_trace_18 rfl (by decide) ⟨by decide, by decide⟩ ?_
    refine ex_icmp_ne (q := 23) (tgt := 66) dX12_trace_20 rfl (by decide) (fun c7 => ?_) (fun c7 => ?_)
    · have hF := ip c7 hF
      refine ex_iinc (q := 69) (lo' := [some (vr 12 l0), some (vi l1), some (vi l2), some (vi (wI (l3 + 1)))]) dX12_trace_66 rfl rfl (by decide) rfl rfl ?_
      refine ex_goto (q := 4) dX12_trace_69 (by decide) ?_
      exact ex_forget (lo' := [some (vr 12 l0), some (vi l1), some (vi l2), some (vi (wI (l3 + 1)))]) ⟨Or.inr rfl, Or.inr rfl, Or.inr rfl, Or.inr rfl, trivial⟩ (hag4 _ _ _ _ _ _ _ hF)
    · have hF := im c7 hF
      refine ex_aload_n (q := 24) dX12_trace_23 rfl rfl ?_
      refine ex_get (q := 27) (v := vr 82 (gt h 12 l0 42)) 42 dX12_trace_24 rfl fl_X12_108 g1 rfl rfl ?_
      refine ex_bipush (q := 29) dX12_trace_27 rfl (by decide) ⟨by decide, by decide⟩ ?_
      refine ex_iload_n (q := 30) dX12_trace_29 rfl rfl ?_
      refine ex_imul (q := 31) dX12_trace_30 rfl ?_
      refine ex_iconst (q := 32) dX12_trace_31 rfl ⟨by decide, by decide⟩ ?_
      refine ex_iload_n (q := 33) dX12_trace_32 rfl rfl ?_
      refine ex_imul (q := 34) dX12_trace_33 rfl ?_
      refine ex_iadd (q := 35) dX12_trace_34 rfl ?_
      refine ex_aload_n (q := 36) dX12_trace_35 rfl rfl ?_
      refine ex_get (q := 39) (v := vr 70 (gt h 12 l0 28)) 28 dX12_trace_36 rfl fl_X12_72 g1 rfl rfl ?_
      refine ex_iload_n (q := 40) dX12_trace_39 rfl rfl ?_
      obtain ⟨g8, hF⟩ := zg hF
      refine ex_iald (q := 41) dX12_trace_40 rfl kd_70 g8 g6.1 g6.2 ?_
      obtain ⟨g9, hF⟩ := zg hF
      obtain ⟨g10, hF⟩ := zg hF
      refine ex_iast (q := 42) dX12_trace_41 rfl kd_82 g9 g10.1 g10.2 ?_
      refine ex_aload_n (q := 43) dX12_trace_42 rfl rfl ?_
      refine ex_get (q := 46) (v := vr 82 (gt (pt h 82 (gt h 12 l0 42) (wI ((wI (20 * l1)) + (wI (2 * l2)))) (gt h 70 (gt h 12 l0 28) l3)) 12 l0 42)) 42 dX12_trace_43 rfl fl_X12_108 g1 rfl rfl ?_
      refine ex_bipush (q := 48) dX12_trace_46 rfl (by decide) ⟨by decide, by decide⟩ ?_
      refine ex_iload_n (q := 49) dX12_trace_48 rfl rfl ?_
      refine ex_imul (q := 50) dX12_trace_49 rfl ?_
      refine ex_iconst (q := 51) dX12_trace_50 rfl ⟨by decide, by decide⟩ ?_
      refine ex_iload_n (q := 52) dX12_trace_51 rfl rfl ?_
      refine ex_imul (q := 53) dX12_trace_52 rfl ?_
      refine ex_iadd (q := 54) dX12_trace_53 rfl ?_
      refine ex_iconst (q := 55) dX12_trace_54 rfl ⟨by decide, by decide⟩ ?_
      refine ex_iadd (q := 56) dX12_trace_55 rfl ?_
      refine ex_aload_n (q := 57) dX12_trace_56 rfl rfl ?_
      refine ex_get (q := 60) (v := vr 73 (gt (pt h 82 (gt h 12 l0 42) (wI ((wI (20 * l1)) + (wI (2 * l2)))) (gt h 70 (gt h 12 l0 28) l3)) 12 l0 31)) 31 dX12_trace_57 rfl fl_X12_81 g1 rfl rfl ?_
      refine ex_iload_n (q := 61) dX12_trace_60 rfl rfl ?_
      obtain ⟨g11, hF⟩ := zg hF
      refine ex_iald (q := 62) dX12_trace_61 rfl kd_73 g11 g6.1 g6.2 ?_
      obtain ⟨g12, hF⟩ := zg hF
      obtain ⟨g13, hF⟩ := zg hF
      refine ex_iast (q := 63) dX12_trace_62 rfl kd_82 g12 g13.1 g13.2 ?_
      have hF := zl_e hF
      generalize pt (pt h 82 (gt h 12 l0 42) (wI ((wI (20 * l1)) + (wI (2 * l2)))) (gt h 70 (gt h 12 l0 28) l3)) 82 (gt (pt h 82 (gt h 12 l0 42) (wI ((wI (20 * l1)) + (wI (2 * l2)))) (gt h 70 (gt h 12 l0 28) l3)) 12 l0 42) (wI ((wI ((wI (20 * l1)) + (wI (2 * l2)))) + 1)) (gt (pt h 82 (gt h 12 l0 42) (wI ((wI (20 * l1)) + (wI (2 * l2)))) (gt h 70 (gt h 12 l0 28) l3)) 73 (gt (pt h 82 (gt h 12 l0 42) (wI ((wI (20 * l1)) + (wI (2 * l2)))) (gt h 70 (gt h 12 l0 28) l3)) 12 l0 31) l3) = k14 at hF ⊢
      refine ex_iinc (q := 66) (lo' := [some (vr 12 l0), some (vi l1), some (vi (wI (l2 + 1))), some (vi l3)]) dX12_trace_63 rfl rfl (by decide) rfl rfl ?_
      refine ex_iinc (q := 69) (lo' := [some (vr 12 l0), some (vi l1), some (vi (wI (l2 + 1))), some (vi (wI (l3 + 1)))]) dX12_trace_66 rfl rfl (by decide) rfl rfl ?_
      refine ex_goto (q := 4) dX12_trace_69 (by decide) ?_
      exact ex_forget (lo' := [some (vr 12 l0), some (vi l1), some (vi (wI (l2 + 1))), some (vi (wI (l3 + 1)))]) ⟨Or.inr rfl, Or.inr rfl, Or.inr rfl, Or.inr rfl, trivial⟩ (hag4 _ _ _ _ _ _ _ hF)
def F_X12_trace_4 : Nat → Int → Int → Int → Int → zH → zO
  | 0, _, _, _, _, _ => none
  | n + 1, l0, l1, l2, l3, h => F_X12_trace_4b (F_X12_trace_4 n) l0 l1 l2 l3 h
theorem x_X12_trace_4 : ∀ (n : Nat) (l0 l1 l2 l3 : Int) (h : zH) (r : Int) (h' : zH), F_X12_trace_4 n l0 l1 l2 l3 h = some (r, h') → Ex 0 M_X12_trace 4 [some (vr 12 l0), some (vi l1), some (vi l2), some (vi l3)] [] h (fun r1 h1 => r1 = none ∧ h1 = h')
  | 0, _, _, _, _, _, _, _, hF => by cases hF
  | n + 1, _, _, _, _, _, _, _, hF => x_X12_trace_4b (x_X12_trace_4 n) hF
def F_X12_trace_0 (l0 l1 : Int) (h : zH) : zO := F_X12_trace_4 zF l0 l1 0 0 h
set_option maxHeartbeats 1000000 in
theorem x_X12_trace_0 {l0 l1 : Int} {h : zH} {r : Int} {h' : zH} (hF : F_X12_trace_0 l0 l1 h = some (r, h')) : Ex 0 M_X12_trace 0 [some (vr 12 l0), some (vi l1), none, none] [] h (fun r1 h1 => r1 = none ∧ h1 = h') := by
  unfold F_X12_trace_0 at hF
  refine ex_iconst (q := 1) dX12_trace_0 rfl ⟨by decide, by decide⟩ ?_
  refine ex_istore_n (q := 2) (lo' := [some (vr 12 l0), some (vi l1), some (vi 0), none]) dX12_trace_1 rfl (by decide) rfl rfl ?_
  refine ex_iconst (q := 3) dX12_trace_2 rfl ⟨by decide, by decide⟩ ?_
  refine ex_istore_n (q := 4) (lo' := [some (vr 12 l0), some (vi l1), some (vi 0), some (vi 0)]) dX12_trace_3 rfl (by decide) rfl rfl ?_
  exact ex_forget (lo' := [some (vr 12 l0), some (vi l1), some (vi 0), some (vi 0)]) ⟨Or.inr rfl, Or.inr rfl, Or.inr rfl, Or.inr rfl, trivial⟩ (x_X12_trace_4 _ _ _ _ _ _ _ _ hF)
def F_X12_trace (l0 l1 : Int) (h : zH) : zO := F_X12_trace_0 l0 l1 h
theorem run_X12_trace {l0 l1 : Int} {h : zH} {r : Int} {h' : zH} (hF : F_X12_trace l0 l1 h = some (r, h')) : Run 0 yX12_trace cX12_trace 4 none [vr 12 l0, vi l1] h none h' := run_of (M := M_X12_trace) (by decide) rfl (fun z => by cases z) (Nat.le_of_ble_eq_true rfl) (x_X12_trace_0 hF)
abbrev M_X12_hasOpen : zM := (RX12, (cX12_hasOpen, (4, ((some .boolean), false))))
def F_X12_hasOpen_51 (ag6 : Int → Int → Int → Int → zH → zO) (l0 l1 l3 : Int) (h : zH) : zO := ag6 l0 l1 0 (wI (l3 + 1)) h
set_option maxHeartbeats 1000000 in
theorem x_X12_hasOpen_51 {ag6 : Int → Int → Int → Int → zH → zO} (hag6 : ∀ (l0 l1 l2 l3 : Int) (h : zH) (r : Int) (h' : zH), ag6 l0 l1 l2 l3 h = some (r, h') → Ex 0 M_X12_hasOpen 6 [some (vr 12 l0), some (vi l1), some (vi l2), some (vi l3)] [] h (fun r1 h1 => r1 = some (vi r) ∧ h1 = h')) {l0 l1 l3 : Int} {h : zH} {r : Int} {h' : zH} (hF : F_X12_hasOpen_51 ag6 l0 l1 l3 h = some (r, h')) : Ex 0 M_X12_hasOpen 51 [some (vr 12 l0), some (vi l1), none, some (vi l3)] [] h (fun r1 h1 => r1 = some (vi r) ∧ h1 = h') := by
  unfold F_X12_hasOpen_51 at hF
  refine ex_iconst (q := 52) dX12_hasOpen_51 rfl ⟨by decide, by decide⟩ ?_
  refine ex_istore_n (q := 53) (lo' := [some (vr 12 l0), some (vi l1), some (vi 0), some (vi l3)]) dX12_hasOpen_52 rfl (by decide) rfl rfl ?_
  refine ex_iinc (q := 56) (lo' := [some (vr 12 l0), some (vi l1), some (vi 0), some (vi (wI (l3 + 1)))]) dX12_hasOpen_53 rfl rfl (by decide) rfl rfl ?_
  refine ex_goto (q := 6) dX12_hasOpen_56 (by decide) ?_
  exact ex_forget (lo' := [some (vr 12 l0), some (vi l1), some (vi 0), some (vi (wI (l3 + 1)))]) ⟨Or.inr rfl, Or.inr rfl, Or.inr rfl, Or.inr rfl, trivial⟩ (hag6 _ _ _ _ _ _ _ hF)
def F_X12_hasOpen_47 (ag6 : Int → Int → Int → Int → zH → zO) (l0 l1 l3 : Int) (h : zH) : zO := ag6 l0 l1 1 (wI (l3 + 1)) h
set_option maxHeartbeats 1000000 in
theorem x_X12_hasOpen_47 {ag6 : Int → Int → Int → Int → zH → zO} (hag6 : ∀ (l0 l1 l2 l3 : Int) (h : zH) (r : Int) (h' : zH), ag6 l0 l1 l2 l3 h = some (r, h') → Ex 0 M_X12_hasOpen 6 [some (vr 12 l0), some (vi l1), some (vi l2), some (vi l3)] [] h (fun r1 h1 => r1 = some (vi r) ∧ h1 = h')) {l0 l1 l3 : Int} {h : zH} {r : Int} {h' : zH} (hF : F_X12_hasOpen_47 ag6 l0 l1 l3 h = some (r, h')) : Ex 0 M_X12_hasOpen 47 [some (vr 12 l0), some (vi l1), none, some (vi l3)] [] h (fun r1 h1 => r1 = some (vi r) ∧ h1 = h') := by
  unfold F_X12_hasOpen_47 at hF
  refine ex_iconst (q := 48) dX12_hasOpen_47 rfl ⟨by decide, by decide⟩ ?_
  refine ex_goto (q := 52) dX12_hasOpen_48 (by decide) ?_
  refine ex_istore_n (q := 53) (lo' := [some (vr 12 l0), some (vi l1), some (vi 1), some (vi l3)]) dX12_hasOpen_52 rfl (by decide) rfl rfl ?_
  refine ex_iinc (q := 56) (lo' := [some (vr 12 l0), some (vi l1), some (vi 1), some (vi (wI (l3 + 1)))]) dX12_hasOpen_53 rfl rfl (by decide) rfl rfl ?_
  refine ex_goto (q := 6) dX12_hasOpen_56 (by decide) ?_
  exact ex_forget (lo' := [some (vr 12 l0), some (vi l1), some (vi 1), some (vi (wI (l3 + 1)))]) ⟨Or.inr rfl, Or.inr rfl, Or.inr rfl, Or.inr rfl, trivial⟩ (hag6 _ _ _ _ _ _ _ hF)
def F_X12_hasOpen_6b (ag6 : Int → Int → Int → Int → zH → zO) (l0 l1 l2 l3 : Int) (h : zH) : zO := if 0 ≤ l0 then (if gt h 12 l0 34 ≤ l3 then (if l2 = 0 ∨ l2 = 1 then some (l2, h) else none) else (if l2 ≠ 0 then (F_X12_hasOpen_47 ag6 l0 l1 l3 h) else (if 0 ≤ gt h 12 l0 40 then (if 0 ≤ l3 ∧ l3 < 180 then (if gt h 80 (gt h 12 l0 40) l3 = 0 then (F_X12_hasOpen_51 ag6 l0 l1 l3 h) else (if 0 ≤ gt h 12 l0 36 then (if gt h 76 (gt h 12 l0 36) l3 ≠ 2 then (F_X12_hasOpen_51 ag6 l0 l1 l3 h) else (if 0 ≤ gt h 12 l0 37 then (if gt h 77 (gt h 12 l0 37) l3 ≠ l1 then (F_X12_hasOpen_51 ag6 l0 l1 l3 h) else (F_X12_hasOpen_47 ag6 l0 l1 l3 h)) else none)) else none)) else none) else none))) else none
set_option maxHeartbeats 1000000 in
theorem x_X12_hasOpen_6b {ag6 : Int → Int → Int → Int → zH → zO} (hag6 : ∀ (l0 l1 l2 l3 : Int) (h : zH) (r : Int) (h' : zH), ag6 l0 l1 l2 l3 h = some (r, h') → Ex 0 M_X12_hasOpen 6 [some (vr 12 l0), some (vi l1), some (vi l2), some (vi l3)] [] h (fun r1 h1 => r1 = some (vi r) ∧ h1 = h')) {l0 l1 l2 l3 : Int} {h : zH} {r : Int} {h' : zH} (hF : F_X12_hasOpen_6b ag6 l0 l1 l2 l3 h = some (r, h')) : Ex 0 M_X12_hasOpen 6 [some (vr 12 l0), some (vi l1), some (vi l2), some (vi l3)] [] h (fun r1 h1 => r1 = some (vi r) ∧ h1 = h') := by
  unfold F_X12_hasOpen_6b at hF
  refine ex_iload_n (q := 7) dX12_hasOpen_6 rfl rfl ?_
  refine ex_aload_n (q := 8) dX12_hasOpen_7 rfl rfl ?_
  obtain ⟨g1, hF⟩ := zg hF
  refine ex_get (q := 11) (v := vi (gt h 12 l0 34)) 34 dX12_hasOpen_8 rfl fl_X12_258 g1 rfl rfl ?_
  refine ex_icmp_ge (q := 14) (tgt := 59) dX12_hasOpen_11 rfl (by decide) (fun c2 => ?_) (fun c2 => ?_)
  · have hF := ip c2 hF
    refine ex_iload_n (q := 60) dX12_hasOpen_59 rfl rfl ?_
    obtain ⟨g3, hF⟩ := zg hF
    obtain ⟨rfl, rfl⟩ := zr hF
    exact ex_ret (some (vi l2)) rfl ⟨dX12_hasOpen_60, Or.inr ⟨rfl, g3⟩⟩ ⟨rfl, rfl⟩
  · have hF := im c2 hF
    refine ex_iload_n (q := 15) dX12_hasOpen_14 rfl rfl ?_
    refine ex_if_ne (q := 18) (tgt := 47) dX12_hasOpen_15 rfl (by decide) (fun c4 => ?_) (fun c4 => ?_)
    · have hF := ip c4 hF
      exact ex_forget (lo' := [some (vr 12 l0), some (vi l1), none, some (vi l3)]) ⟨Or.inr rfl, Or.inr rfl, Or.inl rfl, Or.inr rfl, trivial⟩ (x_X12_hasOpen_47 hag6 hF)
    · have hF := im c4 hF
      refine ex_aload_n (q := 19) dX12_hasOpen_18 rfl rfl ?_
      refine ex_get (q := 22) (v := vr 80 (gt h 12 l0 40)) 40 dX12_hasOpen_19 rfl fl_X12_102 g1 rfl rfl ?_
      refine ex_iload_n (q := 23) dX12_hasOpen_22 rfl rfl ?_
      obtain ⟨g5, hF⟩ := zg hF
      obtain ⟨g6, hF⟩ := zg hF
      refine ex_bald (q := 24) dX12_hasOpen_23 rfl kd_80 g5 g6.1 g6.2 ?_
      refine ex_if_eq (q := 27) (tgt := 51) dX12_hasOpen_24 rfl (by decide) (fun c7 => ?_) (fun c7 => ?_)
      · have hF := ip c7 hF
        exact ex_forget (lo' := [some (vr 12 l0), some (vi l1), none, some (vi l3)]) ⟨Or.inr rfl, Or.inr rfl, Or.inl rfl, Or.inr rfl, trivial⟩ (x_X12_hasOpen_51 hag6 hF)
      · have hF := im c7 hF
        refine ex_aload_n (q := 28) dX12_hasOpen_27 rfl rfl ?_
        refine ex_get (q := 31) (v := vr 76 (gt h 12 l0 36)) 36 dX12_hasOpen_28 rfl fl_X12_90 g1 rfl rfl ?_
        refine ex_iload_n (q := 32) dX12_hasOpen_31 rfl rfl ?_
        obtain ⟨g8, hF⟩ := zg hF
        refine ex_iald (q := 33) dX12_hasOpen_32 rfl kd_76 g8 g6.1 g6.2 ?_
        refine ex_iconst (q := 34) dX12_hasOpen_33 rfl ⟨by decide, by decide⟩ ?_
        refine ex_icmp_ne (q := 37) (tgt := 51) dX12_hasOpen_34 rfl (by decide) (fun c9 => ?_) (fun c9 => ?_)
        · have hF := ip c9 hF
          exact ex_forget (lo' := [some (vr 12 l0), some (vi l1), none, some (vi l3)]) ⟨Or.inr rfl, Or.inr rfl, Or.inl rfl, Or.inr rfl, trivial⟩ (x_X12_hasOpen_51 hag6 hF)
        · have hF := im c9 hF
          refine ex_aload_n (q := 38) dX12_hasOpen_37 rfl rfl ?_
          refine ex_get (q := 41) (v := vr 77 (gt h 12 l0 37)) 37 dX12_hasOpen_38 rfl fl_X12_93 g1 rfl rfl ?_
          refine ex_iload_n (q := 42) dX12_hasOpen_41 rfl rfl ?_
          obtain ⟨g10, hF⟩ := zg hF
          refine ex_iald (q := 43) dX12_hasOpen_42 rfl kd_77 g10 g6.1 g6.2 ?_
          refine ex_iload_n (q := 44) dX12_hasOpen_43 rfl rfl ?_
          refine ex_icmp_ne (q := 47) (tgt := 51) dX12_hasOpen_44 rfl (by decide) (fun c11 => ?_) (fun c11 => ?_)
          · have hF := ip c11 hF
            exact ex_forget (lo' := [some (vr 12 l0), some (vi l1), none, some (vi l3)]) ⟨Or.inr rfl, Or.inr rfl, Or.inl rfl, Or.inr rfl, trivial⟩ (x_X12_hasOpen_51 hag6 hF)
          · have hF := im c11 hF
            exact ex_forget (lo' := [some (vr 12 l0), some (vi l1), none, some (vi l3)]) ⟨Or.inr rfl, Or.inr rfl, Or.inl rfl, Or.inr rfl, trivial⟩ (x_X12_hasOpen_47 hag6 hF)
def F_X12_hasOpen_6 : Nat → Int → Int → Int → Int → zH → zO
  | 0, _, _, _, _, _ => none
  | n + 1, l0, l1, l2, l3, h => F_X12_hasOpen_6b (F_X12_hasOpen_6 n) l0 l1 l2 l3 h
theorem x_X12_hasOpen_6 : ∀ (n : Nat) (l0 l1 l2 l3 : Int) (h : zH) (r : Int) (h' : zH), F_X12_hasOpen_6 n l0 l1 l2 l3 h = some (r, h') → Ex 0 M_X12_hasOpen 6 [some (vr 12 l0), some (vi l1), some (vi l2), some (vi l3)] [] h (fun r1 h1 => r1 = some (vi r) ∧ h1 = h')
  | 0, _, _, _, _, _, _, _, hF => by cases hF
  | n + 1, _, _, _, _, _, _, _, hF => x_X12_hasOpen_6b (x_X12_hasOpen_6 n) hF
def F_X12_hasOpen_0 (l0 l1 : Int) (h : zH) : zO := F_X12_hasOpen_6 zF l0 l1 0 (wI (l1 + 1)) h
set_option maxHeartbeats 1000000 in
theorem x_X12_hasOpen_0 {l0 l1 : Int} {h : zH} {r : Int} {h' : zH} (hF : F_X12_hasOpen_0 l0 l1 h = some (r, h')) : Ex 0 M_X12_hasOpen 0 [some (vr 12 l0), some (vi l1), none, none] [] h (fun r1 h1 => r1 = some (vi r) ∧ h1 = h') := by
  unfold F_X12_hasOpen_0 at hF
  refine ex_iconst (q := 1) dX12_hasOpen_0 rfl ⟨by decide, by decide⟩ ?_
  refine ex_istore_n (q := 2) (lo' := [some (vr 12 l0), some (vi l1), some (vi 0), none]) dX12_hasOpen_1 rfl (by decide) rfl rfl ?_
  refine ex_iload_n (q := 3) dX12_hasOpen_2 rfl rfl ?_
  refine ex_iconst (q := 4) dX12_hasOpen_3 rfl ⟨by decide, by decide⟩ ?_
  refine ex_iadd (q := 5) dX12_hasOpen_4 rfl ?_
  refine ex_istore_n (q := 6) (lo' := [some (vr 12 l0), some (vi l1), some (vi 0), some (vi (wI (l1 + 1)))]) dX12_hasOpen_5 rfl (by decide) rfl rfl ?_
  exact ex_forget (lo' := [some (vr 12 l0), some (vi l1), some (vi 0), some (vi (wI (l1 + 1)))]) ⟨Or.inr rfl, Or.inr rfl, Or.inr rfl, Or.inr rfl, trivial⟩ (x_X12_hasOpen_6 _ _ _ _ _ _ _ _ hF)
def F_X12_hasOpen (l0 l1 : Int) (h : zH) : zO := F_X12_hasOpen_0 l0 l1 h
theorem run_X12_hasOpen {l0 l1 : Int} {h : zH} {r : Int} {h' : zH} (hF : F_X12_hasOpen l0 l1 h = some (r, h')) : Run 0 yX12_hasOpen cX12_hasOpen 4 (some .boolean) [vr 12 l0, vi l1] h (some (vi r)) h' := run_of (M := M_X12_hasOpen) (by decide) rfl (fun z => by cases z) (Nat.le_of_ble_eq_true rfl) (x_X12_hasOpen_0 hF)
abbrev M_X12_doSlot : zM := (RX12, (cX12_doSlot, (8, (none, false))))
def F_X12_doSlot_97 (l0 l2 l6 : Int) (h : zH) : zO := if 0 ≤ l0 then (zb (F_X12_fail l0 4 l2 l6 h) (fun r1 h1 => some (0, h1))) else none
set_option maxHeartbeats 1000000 in
theorem x_X12_doSlot_97 {l0 l2 l6 : Int} {h : zH} {r : Int} {h' : zH} (hF : F_X12_doSlot_97 l0 l2 l6 h = some (r, h')) : Ex 5 M_X12_doSlot 97 [some (vr 12 l0), none, some (vi l2), none, none, none, some (vi l6), none] [] h (fun r1 h1 => r1 = none ∧ h1 = h') := by
  unfold F_X12_doSlot_97 at hF
  refine ex_aload_n (q := 98) dX12_doSlot_97 rfl rfl ?_
  refine ex_iconst (q := 99) dX12_doSlot_98 rfl ⟨by decide, by decide⟩ ?_
  refine ex_iload_n (q := 100) dX12_doSlot_99 rfl rfl ?_
  refine ex_iload (q := 102) dX12_doSlot_100 rfl rfl ?_
  obtain ⟨g2, hF⟩ := zg hF
  obtain ⟨r1, h1, e1, hF⟩ := zb_some hF
  refine ex_callV (d' := 4) (q := 105) (as := [vi 4, vi l2, vi l6]) (st1 := []) (r := none) (h2 := h1) dX12_doSlot_102 rfl (run_X12_fail e1) mc_X12_fail mv_X12_fail ml_X12_330 (by decide) g2 rfl rfl (Nat.le_of_ble_eq_true rfl) rfl ?_
  refine ex_goto (q := 136) dX12_doSlot_105 (by decide) ?_
  refine ex_goto (q := 202) dX12_doSlot_136 (by decide) ?_
  obtain ⟨rfl, rfl⟩ := zr hF
  exact ex_ret none rfl ⟨dX12_doSlot_202, rfl⟩ ⟨rfl, rfl⟩
def F_X12_doSlot_13 (l0 l2 l3 : Int) (h : zH) : zO := if 0 ≤ l3 then (if 0 ≤ l0 then (if 0 ≤ gt h 12 l0 35 then (if 0 ≤ l3 ∧ l3 < 180 then (zb (F_X12_fail l0 3 l2 (gt h 75 (gt h 12 l0 35) l3) h) (fun r5 h5 => some (0, h5))) else none) else none) else none) else (if 0 ≤ l0 then (zb (F_X12_fail l0 3 l2 (-1) h) (fun r6 h6 => some (0, h6))) else none)
set_option maxHeartbeats 1000000 in
theorem x_X12_doSlot_13 {l0 l2 l3 : Int} {h : zH} {r : Int} {h' : zH} (hF : F_X12_doSlot_13 l0 l2 l3 h = some (r, h')) : Ex 5 M_X12_doSlot 13 [some (vr 12 l0), none, some (vi l2), some (vi l3), none, none, none, none] [] h (fun r1 h1 => r1 = none ∧ h1 = h') := by
  unfold F_X12_doSlot_13 at hF
  refine ex_aload_n (q := 14) dX12_doSlot_13 rfl rfl ?_
  refine ex_iconst (q := 15) dX12_doSlot_14 rfl ⟨by decide, by decide⟩ ?_
  refine ex_iload_n (q := 16) dX12_doSlot_15 rfl rfl ?_
  refine ex_iload_n (q := 17) dX12_doSlot_16 rfl rfl ?_
  refine ex_if_ge (q := 20) (tgt := 24) dX12_doSlot_17 rfl (by decide) (fun c1 => ?_) (fun c1 => ?_)
  · have hF := ip c1 hF
    refine ex_aload_n (q := 25) dX12_doSlot_24 rfl rfl ?_
    obtain ⟨g2, hF⟩ := zg hF
    refine ex_get (q := 28) (v := vr 75 (gt h 12 l0 35)) 35 dX12_doSlot_25 rfl fl_X12_87 g2 rfl rfl ?_
    refine ex_iload_n (q := 29) dX12_doSlot_28 rfl rfl ?_
    obtain ⟨g3, hF⟩ := zg hF
    obtain ⟨g4, hF⟩ := zg hF
    refine ex_iald (q := 30) dX12_doSlot_29 rfl kd_75 g3 g4.1 g4.2 ?_
    obtain ⟨r5, h5, e5, hF⟩ := zb_some hF
    refine ex_callV (d' := 4) (q := 33) (as := [vi 3, vi l2, vi (gt h 75 (gt h 12 l0 35) l3)]) (st1 := []) (r := none) (h2 := h5) dX12_doSlot_30 rfl (run_X12_fail e5) mc_X12_fail mv_X12_fail ml_X12_330 (by decide) g2 rfl rfl (Nat.le_of_ble_eq_true rfl) rfl ?_
    obtain ⟨rfl, rfl⟩ := zr hF
    exact ex_ret none rfl ⟨dX12_doSlot_33, rfl⟩ ⟨rfl, rfl⟩
  · have hF := im c1 hF
    refine ex_iconst (q := 21) dX12_doSlot_20 rfl ⟨by decide, by decide⟩ ?_
    refine ex_goto (q := 30) dX12_doSlot_21 (by decide) ?_
    obtain ⟨g7, hF⟩ := zg hF
    obtain ⟨r6, h6, e6, hF⟩ := zb_some hF
    refine ex_callV (d' := 4) (q := 33) (as := [vi 3, vi l2, vi (-1)]) (st1 := []) (r := none) (h2 := h6) dX12_doSlot_30 rfl (run_X12_fail e6) mc_X12_fail mv_X12_fail ml_X12_330 (by decide) g7 rfl rfl (Nat.le_of_ble_eq_true rfl) rfl ?_
    obtain ⟨rfl, rfl⟩ := zr hF
    exact ex_ret none rfl ⟨dX12_doSlot_33, rfl⟩ ⟨rfl, rfl⟩
def F_X12_doSlot_0 (l0 l1 l2 l3 l4 l5 : Int) (h : zH) : zO := if l3 < 0 then (F_X12_doSlot_13 l0 l2 l3 h) else (if 0 ≤ l0 then (if 0 ≤ gt h 12 l0 40 then (if 0 ≤ l3 ∧ l3 < 180 then (if gt h 80 (gt h 12 l0 40) l3 ≠ 0 then (if 0 ≤ gt h 12 l0 35 then (if l1 ≠ 4 then (if l1 ≠ 6 then (zb (F_X12_hasOpen l0 l3 h) (fun r9 h9 => if r9 = 0 then (if l1 ≠ 5 then (zb (F_X12_meets l0 (gt h 75 (gt h 12 l0 35) l3) 0 h9) (fun r12 h12 => if r12 = 0 then (some (0, h12)) else (zb (F_X12_fail l0 5 l2 (gt h 75 (gt h 12 l0 35) l3) h12) (fun r14 h14 => some (0, h14))))) else (zb (F_X12_newLoan l0 (gt h 75 (gt h 12 l0 35) l3) 2 l3 h9) (fun r15 h15 => if 0 ≤ gt h9 12 l0 32 then (if 0 ≤ wI (l5 + l4) ∧ wI (l5 + l4) < 88 then (some (0, (pt h15 74 (gt h9 12 l0 32) (wI (l5 + l4)) r15))) else none) else none))) else (zb (F_X12_fail l0 2 l2 (gt h 75 (gt h 12 l0 35) l3) h9) (fun r18 h18 => some (0, h18))))) else (zb (F_X12_innermost l0 l4 h) (fun r19 h19 => if r19 < 0 then (F_X12_doSlot_97 l0 l2 (gt h 75 (gt h 12 l0 35) l3) h19) else (if 0 ≤ gt h19 12 l0 36 then (if gt h19 76 (gt h19 12 l0 36) l3 ≠ 1 then (if 0 ≤ gt h19 12 l0 38 then (if 0 ≤ gt (pt h19 78 (gt h19 12 l0 38) l3 r19) 12 l0 39 then (zl (pt (pt h19 78 (gt h19 12 l0 38) l3 r19) 79 (gt (pt h19 78 (gt h19 12 l0 38) l3 r19) 12 l0 39) l3 (gt (pt h19 78 (gt h19 12 l0 38) l3 r19) 12 l0 43)) (fun k25 => some (0, (pt k25 12 l0 43 (wI ((gt k25 12 l0 43) + 1)))))) else none) else none) else (F_X12_doSlot_97 l0 l2 (gt h 75 (gt h 12 l0 35) l3) h19)) else none)))) else (zb (F_X12_giveBack l0 l3 0 h) (fun r26 h26 => if r26 = 0 then (some (0, h26)) else (zb (F_X12_fail l0 6 l2 (gt h 75 (gt h 12 l0 35) l3) h26) (fun r28 h28 => some (0, h28)))))) else none) else (F_X12_doSlot_13 l0 l2 l3 h)) else none) else none) else none)
set_option maxHeartbeats 1000000 in
theorem x_X12_doSlot_0 {l0 l1 l2 l3 l4 l5 : Int} {h : zH} {r : Int} {h' : zH} (hF : F_X12_doSlot_0 l0 l1 l2 l3 l4 l5 h = some (r, h')) : Ex 5 M_X12_doSlot 0 [some (vr 12 l0), some (vi l1), some (vi l2), some (vi l3), some (vi l4), some (vi l5), none, none] [] h (fun r1 h1 => r1 = none ∧ h1 = h') := by
  unfold F_X12_doSlot_0 at hF
  refine ex_iload_n (q := 1) dX12_doSlot_0 rfl rfl ?_
  refine ex_if_lt (q := 4) (tgt := 13) dX12_doSlot_1 rfl (by decide) (fun c1 => ?_) (fun c1 => ?_)
  · have hF := ip c1 hF
    exact ex_forget (lo' := [some (vr 12 l0), none, some (vi l2), some (vi l3), none, none, none, none]) ⟨Or.inr rfl, Or.inl rfl, Or.inr rfl, Or.inr rfl, Or.inl rfl, Or.inl rfl, Or.inl rfl, Or.inl rfl, trivial⟩ (x_X12_doSlot_13 hF)
  · have hF := im c1 hF
    refine ex_aload_n (q := 5) dX12_doSlot_4 rfl rfl ?_
    obtain ⟨g2, hF⟩ := zg hF
    refine ex_get (q := 8) (v := vr 80 (gt h 12 l0 40)) 40 dX12_doSlot_5 rfl fl_X12_102 g2 rfl rfl ?_
    refine ex_iload_n (q := 9) dX12_doSlot_8 rfl rfl ?_
    obtain ⟨g3, hF⟩ := zg hF
    obtain ⟨g4, hF⟩ := zg hF
    refine ex_bald (q := 10) dX12_doSlot_9 rfl kd_80 g3 g4.1 g4.2 ?_
    refine ex_if_ne (q := 13) (tgt := 34) dX12_doSlot_10 rfl (by decide) (fun c5 => ?_) (fun c5 => ?_)
    · have hF := ip c5 hF
      refine ex_aload_n (q := 35) dX12_doSlot_34 rfl rfl ?_
      refine ex_get (q := 38) (v := vr 75 (gt h 12 l0 35)) 35 dX12_doSlot_35 rfl fl_X12_87 g2 rfl rfl ?_
      refine ex_iload_n (q := 39) dX12_doSlot_38 rfl rfl ?_
      obtain ⟨g6, hF⟩ := zg hF
      refine ex_iald (q := 40) dX12_doSlot_39 rfl kd_75 g6 g4.1 g4.2 ?_
      refine ex_istore (q := 42) (lo' := [some (vr 12 l0), some (vi l1), some (vi l2), some (vi l3), some (vi l4), some (vi l5), some (vi (gt h 75 (gt h 12 l0 35) l3)), none]) dX12_doSlot_40 rfl (by decide) rfl rfl ?_
      refine ex_iload_n (q := 43) dX12_doSlot_42 rfl rfl ?_
      refine ex_iconst (q := 44) dX12_doSlot_43 rfl ⟨by decide, by decide⟩ ?_
      refine ex_icmp_ne (q := 47) (tgt := 68) dX12_doSlot_44 rfl (by decide) (fun c7 => ?_) (fun c7 => ?_)
      · have hF := ip c7 hF
        refine ex_iload_n (q := 69) dX12_doSlot_68 rfl rfl ?_
        refine ex_bipush (q := 71) dX12_doSlot_69 rfl (by decide) ⟨by decide, by decide⟩ ?_
        refine ex_icmp_ne (q := 74) (tgt := 139) dX12_doSlot_71 rfl (by decide) (fun c8 => ?_) (fun c8 => ?_)
        · have hF := ip c8 hF
          refine ex_aload_n (q := 140) dX12_doSlot_139 rfl rfl ?_
          refine ex_iload_n (q := 141) dX12_doSlot_140 rfl rfl ?_
          obtain ⟨r9, h9, e9, hF⟩ := zb_some hF
          refine ex_callV (d' := 0) (q := 144) (as := [vi l3]) (st1 := [vi r9]) (r := (some (vi r9))) (h2 := h9) dX12_doSlot_141 rfl (run_X12_hasOpen e9) mc_X12_hasOpen mv_X12_hasOpen ml_X12_347 (by decide) g2 rfl rfl (Nat.le_of_ble_eq_true rfl) rfl ?_
          refine ex_if_eq (q := 147) (tgt := 158) dX12_doSlot_144 rfl (by decide) (fun c10 => ?_) (fun c10 => ?_)
          · have hF := ip c10 hF
            refine ex_iload_n (q := 159) dX12_doSlot_158 rfl rfl ?_
            refine ex_iconst (q := 160) dX12_doSlot_159 rfl ⟨by decide, by decide⟩ ?_
            refine ex_icmp_ne (q := 163) (tgt := 184) dX12_doSlot_160 rfl (by decide) (fun c11 => ?_) (fun c11 => ?_)
            · have hF := ip c11 hF
              refine ex_aload_n (q := 185) dX12_doSlot_184 rfl rfl ?_
              refine ex_iload (q := 187) dX12_doSlot_185 rfl rfl ?_
              refine ex_iconst (q := 188) dX12_doSlot_187 rfl ⟨by decide, by decide⟩ ?_
              obtain ⟨r12, h12, e12, hF⟩ := zb_some hF
              refine ex_callV (d' := 0) (q := 191) (as := [vi (gt h 75 (gt h 12 l0 35) l3), vi 0]) (st1 := [vi r12]) (r := (some (vi r12))) (h2 := h12) dX12_doSlot_188 rfl (run_X12_meets e12) mc_X12_meets mv_X12_meets ml_X12_170 (by decide) g2 rfl rfl (Nat.le_of_ble_eq_true rfl) rfl ?_
              refine ex_if_eq (q := 194) (tgt := 202) dX12_doSlot_191 rfl (by decide) (fun c13 => ?_) (fun c13 => ?_)
              · have hF := ip c13 hF
                obtain ⟨rfl, rfl⟩ := zr hF
                exact ex_ret none rfl ⟨dX12_doSlot_202, rfl⟩ ⟨rfl, rfl⟩
              · have hF := im c13 hF
                refine ex_aload_n (q := 195) dX12_doSlot_194 rfl rfl ?_
                refine ex_iconst (q := 196) dX12_doSlot_195 rfl ⟨by decide, by decide⟩ ?_
                refine ex_iload_n (q := 197) dX12_doSlot_196 rfl rfl ?_
                refine ex_iload (q := 199) dX12_doSlot_197 rfl rfl ?_
                obtain ⟨r14, h14, e14, hF⟩ := zb_some hF
                refine ex_callV (d' := 4) (q := 202) (as := [vi 5, vi l2, vi (gt h 75 (gt h 12 l0 35) l3)]) (st1 := []) (r := none) (h2 := h14) dX12_doSlot_199 rfl (run_X12_fail e14) mc_X12_fail mv_X12_fail ml_X12_330 (by decide) g2 rfl rfl (Nat.le_of_ble_eq_true rfl) rfl ?_
                obtain ⟨rfl, rfl⟩ := zr hF
                exact ex_ret none rfl ⟨dX12_doSlot_202, rfl⟩ ⟨rfl, rfl⟩
            · have hF := im c11 hF
              refine ex_aload_n (q := 164) dX12_doSlot_163 rfl rfl ?_
              refine ex_get (q := 167) (v := vr 74 (gt h9 12 l0 32)) 32 dX12_doSlot_164 rfl fl_X12_84 g2 rfl rfl ?_
              refine ex_iload (q := 169) dX12_doSlot_167 rfl rfl ?_
              refine ex_iload (q := 171) dX12_doSlot_169 rfl rfl ?_
              refine ex_iadd (q := 172) dX12_doSlot_171 rfl ?_
              refine ex_aload_n (q := 173) dX12_doSlot_172 rfl rfl ?_
              refine ex_iload (q := 175) dX12_doSlot_173 rfl rfl ?_
              refine ex_iconst (q := 176) dX12_doSlot_175 rfl ⟨by decide, by decide⟩ ?_
              refine ex_iload_n (q := 177) dX12_doSlot_176 rfl rfl ?_
              obtain ⟨r15, h15, e15, hF⟩ := zb_some hF
              refine ex_callV (d' := 1) (q := 180) (as := [vi (gt h 75 (gt h 12 l0 35) l3), vi 2, vi l3]) (st1 := [vi r15, vi (wI (l5 + l4)), vr 74 (gt h9 12 l0 32)]) (r := (some (vi r15))) (h2 := h15) dX12_doSlot_177 rfl (run_X12_newLoan e15) mc_X12_newLoan mv_X12_newLoan ml_X12_333 (by decide) g2 rfl rfl (Nat.le_of_ble_eq_true rfl) rfl ?_
              obtain ⟨g16, hF⟩ := zg hF
              obtain ⟨g17, hF⟩ := zg hF
              refine ex_iast (q := 181) dX12_doSlot_180 rfl kd_74 g16 g17.1 g17.2 ?_
              refine ex_goto (q := 202) dX12_doSlot_181 (by decide) ?_
              obtain ⟨rfl, rfl⟩ := zr hF
              exact ex_ret none rfl ⟨dX12_doSlot_202, rfl⟩ ⟨rfl, rfl⟩
          · have hF := im c10 hF
            refine ex_aload_n (q := 148) dX12_doSlot_147 rfl rfl ?_
            refine ex_iconst (q := 149) dX12_doSlot_148 rfl ⟨by decide, by decide⟩ ?_
            refine ex_iload_n (q := 150) dX12_doSlot_149 rfl rfl ?_
            refine ex_iload (q := 152) dX12_doSlot_150 rfl rfl ?_
            obtain ⟨r18, h18, e18, hF⟩ := zb_some hF
            refine ex_callV (d' := 4) (q := 155) (as := [vi 2, vi l2, vi (gt h 75 (gt h 12 l0 35) l3)]) (st1 := []) (r := none) (h2 := h18) dX12_doSlot_152 rfl (run_X12_fail e18) mc_X12_fail mv_X12_fail ml_X12_330 (by decide) g2 rfl rfl (Nat.le_of_ble_eq_true rfl) rfl ?_
            refine ex_goto (q := 202) dX12_doSlot_155 (by decide) ?_
            obtain ⟨rfl, rfl⟩ := zr hF
            exact ex_ret none rfl ⟨dX12_doSlot_202, rfl⟩ ⟨rfl, rfl⟩
        · have hF := im c8 hF
          refine ex_aload_n (q := 75) dX12_doSlot_74 rfl rfl ?_
          refine ex_iload (q := 77) dX12_doSlot_75 rfl rfl ?_
          obtain ⟨r19, h19, e19, hF⟩ := zb_some hF
          refine ex_callV (d' := 0) (q := 80) (as := [vi l4]) (st1 := [vi r19]) (r := (some (vi r19))) (h2 := h19) dX12_doSlot_77 rfl (run_X12_innermost e19) mc_X12_innermost mv_X12_innermost ml_X12_321 (by decide) g2 rfl rfl (Nat.le_of_ble_eq_true rfl) rfl ?_
          refine ex_istore (q := 82) (lo' := [some (vr 12 l0), some (vi l1), some (vi l2), some (vi l3), some (vi l4), some (vi l5), some (vi (gt h 75 (gt h 12 l0 35) l3)), some (vi r19)]) dX12_doSlot_80 rfl (by decide) rfl rfl ?_
          refine ex_iload (q := 84) dX12_doSlot_82 rfl rfl ?_
          refine ex_if_lt (q := 87) (tgt := 97) dX12_doSlot_84 rfl (by decide) (fun c20 => ?_) (fun c20 => ?_)
          · have hF := ip c20 hF
            exact ex_forget (lo' := [some (vr 12 l0), none, some (vi l2), none, none, none, some (vi (gt h 75 (gt h 12 l0 35) l3)), none]) ⟨Or.inr rfl, Or.inl rfl, Or.inr rfl, Or.inl rfl, Or.inl rfl, Or.inl rfl, Or.inr rfl, Or.inl rfl, trivial⟩ (x_X12_doSlot_97 hF)
          · have hF := im c20 hF
            refine ex_aload_n (q := 88) dX12_doSlot_87 rfl rfl ?_
            refine ex_get (q := 91) (v := vr 76 (gt h19 12 l0 36)) 36 dX12_doSlot_88 rfl fl_X12_90 g2 rfl rfl ?_
            refine ex_iload_n (q := 92) dX12_doSlot_91 rfl rfl ?_
            obtain ⟨g21, hF⟩ := zg hF
            refine ex_iald (q := 93) dX12_doSlot_92 rfl kd_76 g21 g4.1 g4.2 ?_
            refine ex_iconst (q := 94) dX12_doSlot_93 rfl ⟨by decide, by decide⟩ ?_
            refine ex_icmp_ne (q := 97) (tgt := 108) dX12_doSlot_94 rfl (by decide) (fun c22 => ?_) (fun c22 => ?_)
            · have hF := ip c22 hF
              refine ex_aload_n (q := 109) dX12_doSlot_108 rfl rfl ?_
              refine ex_get (q := 112) (v := vr 78 (gt h19 12 l0 38)) 38 dX12_doSlot_109 rfl fl_X12_96 g2 rfl rfl ?_
              refine ex_iload_n (q := 113) dX12_doSlot_112 rfl rfl ?_
              refine ex_iload (q := 115) dX12_doSlot_113 rfl rfl ?_
              obtain ⟨g23, hF⟩ := zg hF
              refine ex_iast (q := 116) dX12_doSlot_115 rfl kd_78 g23 g4.1 g4.2 ?_
              refine ex_aload_n (q := 117) dX12_doSlot_116 rfl rfl ?_
              refine ex_get (q := 120) (v := vr 79 (gt (pt h19 78 (gt h19 12 l0 38) l3 r19) 12 l0 39)) 39 dX12_doSlot_117 rfl fl_X12_99 g2 rfl rfl ?_
              refine ex_iload_n (q := 121) dX12_doSlot_120 rfl rfl ?_
              refine ex_aload_n (q := 122) dX12_doSlot_121 rfl rfl ?_
              refine ex_get (q := 125) (v := vi (gt (pt h19 78 (gt h19 12 l0 38) l3 r19) 12 l0 43)) 43 dX12_doSlot_122 rfl fl_X12_324 g2 rfl rfl ?_
              obtain ⟨g24, hF⟩ := zg hF
              refine ex_iast (q := 126) dX12_doSlot_125 rfl kd_79 g24 g4.1 g4.2 ?_
              have hF := zl_e hF
              generalize pt (pt h19 78 (gt h19 12 l0 38) l3 r19) 79 (gt (pt h19 78 (gt h19 12 l0 38) l3 r19) 12 l0 39) l3 (gt (pt h19 78 (gt h19 12 l0 38) l3 r19) 12 l0 43) = k25 at hF ⊢
              refine ex_aload_n (q := 127) dX12_doSlot_126 rfl rfl ?_
              refine ex_dup (q := 128) dX12_doSlot_127 rfl (fun _ z => by cases z) ?_
              refine ex_get (q := 131) (v := vi (gt k25 12 l0 43)) 43 dX12_doSlot_128 rfl fl_X12_324 g2 rfl rfl ?_
              refine ex_iconst (q := 132) dX12_doSlot_131 rfl ⟨by decide, by decide⟩ ?_
              refine ex_iadd (q := 133) dX12_doSlot_132 rfl ?_
              refine ex_put (q := 136) 43 dX12_doSlot_133 rfl fl_X12_324 (by decide) g2 rfl rfl (fun z => by cases z) ?_
              refine ex_goto (q := 202) dX12_doSlot_136 (by decide) ?_
              obtain ⟨rfl, rfl⟩ := zr hF
              exact ex_ret none rfl ⟨dX12_doSlot_202, rfl⟩ ⟨rfl, rfl⟩
            · have hF := im c22 hF
              exact ex_forget (lo' := [some (vr 12 l0), none, some (vi l2), none, none, none, some (vi (gt h 75 (gt h 12 l0 35) l3)), none]) ⟨Or.inr rfl, Or.inl rfl, Or.inr rfl, Or.inl rfl, Or.inl rfl, Or.inl rfl, Or.inr rfl, Or.inl rfl, trivial⟩ (x_X12_doSlot_97 hF)
      · have hF := im c7 hF
        refine ex_aload_n (q := 48) dX12_doSlot_47 rfl rfl ?_
        refine ex_iload_n (q := 49) dX12_doSlot_48 rfl rfl ?_
        refine ex_iconst (q := 50) dX12_doSlot_49 rfl ⟨by decide, by decide⟩ ?_
        obtain ⟨r26, h26, e26, hF⟩ := zb_some hF
        refine ex_callV (d' := 2) (q := 53) (as := [vi l3, vi 0]) (st1 := [vi r26]) (r := (some (vi r26))) (h2 := h26) dX12_doSlot_50 rfl (run_X12_giveBack e26) mc_X12_giveBack mv_X12_giveBack ml_X12_278 (by decide) g2 rfl rfl (Nat.le_of_ble_eq_true rfl) rfl ?_
        refine ex_if_eq (q := 56) (tgt := 202) dX12_doSlot_53 rfl (by decide) (fun c27 => ?_) (fun c27 => ?_)
        · have hF := ip c27 hF
          obtain ⟨rfl, rfl⟩ := zr hF
          exact ex_ret none rfl ⟨dX12_doSlot_202, rfl⟩ ⟨rfl, rfl⟩
        · have hF := im c27 hF
          refine ex_aload_n (q := 57) dX12_doSlot_56 rfl rfl ?_
          refine ex_bipush (q := 59) dX12_doSlot_57 rfl (by decide) ⟨by decide, by decide⟩ ?_
          refine ex_iload_n (q := 60) dX12_doSlot_59 rfl rfl ?_
          refine ex_iload (q := 62) dX12_doSlot_60 rfl rfl ?_
          obtain ⟨r28, h28, e28, hF⟩ := zb_some hF
          refine ex_callV (d' := 4) (q := 65) (as := [vi 6, vi l2, vi (gt h 75 (gt h 12 l0 35) l3)]) (st1 := []) (r := none) (h2 := h28) dX12_doSlot_62 rfl (run_X12_fail e28) mc_X12_fail mv_X12_fail ml_X12_330 (by decide) g2 rfl rfl (Nat.le_of_ble_eq_true rfl) rfl ?_
          refine ex_goto (q := 202) dX12_doSlot_65 (by decide) ?_
          obtain ⟨rfl, rfl⟩ := zr hF
          exact ex_ret none rfl ⟨dX12_doSlot_202, rfl⟩ ⟨rfl, rfl⟩
    · have hF := im c5 hF
      exact ex_forget (lo' := [some (vr 12 l0), none, some (vi l2), some (vi l3), none, none, none, none]) ⟨Or.inr rfl, Or.inl rfl, Or.inr rfl, Or.inr rfl, Or.inl rfl, Or.inl rfl, Or.inl rfl, Or.inl rfl, trivial⟩ (x_X12_doSlot_13 hF)
def F_X12_doSlot (l0 l1 l2 l3 l4 l5 : Int) (h : zH) : zO := F_X12_doSlot_0 l0 l1 l2 l3 l4 l5 h
theorem run_X12_doSlot {l0 l1 l2 l3 l4 l5 : Int} {h : zH} {r : Int} {h' : zH} (hF : F_X12_doSlot l0 l1 l2 l3 l4 l5 h = some (r, h')) : Run 5 yX12_doSlot cX12_doSlot 8 none [vr 12 l0, vi l1, vi l2, vi l3, vi l4, vi l5] h none h' := run_of (M := M_X12_doSlot) (by decide) rfl (fun z => by cases z) (Nat.le_of_ble_eq_true rfl) (x_X12_doSlot_0 hF)
abbrev M_X12_doLine : zM := (RX12, (cX12_doLine, (9, (none, false))))
def F_X12_doLine_380 (l0 l2 l4 l7 l8 : Int) (h : zH) : zO := if l8 = 0 then (if 0 ≤ l0 then (zb (F_X12_fail l0 4 l2 (-1) h) (fun r2 h2 => some (0, h2))) else none) else (if 0 ≤ l0 then (zb (F_X12_beginAct l0 l4 l7 h) (fun r4 h4 => some (0, h4))) else none)
set_option maxHeartbeats 1000000 in
theorem x_X12_doLine_380 {l0 l2 l4 l7 l8 : Int} {h : zH} {r : Int} {h' : zH} (hF : F_X12_doLine_380 l0 l2 l4 l7 l8 h = some (r, h')) : Ex 6 M_X12_doLine 380 [some (vr 12 l0), none, some (vi l2), none, some (vi l4), none, none, some (vi l7), some (vi l8)] [] h (fun r1 h1 => r1 = none ∧ h1 = h') := by
  unfold F_X12_doLine_380 at hF
  refine ex_iload (q := 382) dX12_doLine_380 rfl rfl ?_
  refine ex_if_eq (q := 385) (tgt := 396) dX12_doLine_382 rfl (by decide) (fun c1 => ?_) (fun c1 => ?_)
  · have hF := ip c1 hF
    refine ex_aload_n (q := 397) dX12_doLine_396 rfl rfl ?_
    refine ex_iconst (q := 398) dX12_doLine_397 rfl ⟨by decide, by decide⟩ ?_
    refine ex_iload_n (q := 399) dX12_doLine_398 rfl rfl ?_
    refine ex_iconst (q := 400) dX12_doLine_399 rfl ⟨by decide, by decide⟩ ?_
    obtain ⟨g3, hF⟩ := zg hF
    obtain ⟨r2, h2, e2, hF⟩ := zb_some hF
    refine ex_callV (d' := 4) (q := 403) (as := [vi 4, vi l2, vi (-1)]) (st1 := []) (r := none) (h2 := h2) dX12_doLine_400 rfl (run_X12_fail e2) mc_X12_fail mv_X12_fail ml_X12_330 (by decide) g3 rfl rfl (Nat.le_of_ble_eq_true rfl) rfl ?_
    refine ex_goto (q := 483) dX12_doLine_403 (by decide) ?_
    obtain ⟨rfl, rfl⟩ := zr hF
    exact ex_ret none rfl ⟨dX12_doLine_483, rfl⟩ ⟨rfl, rfl⟩
  · have hF := im c1 hF
    refine ex_aload_n (q := 386) dX12_doLine_385 rfl rfl ?_
    refine ex_iload (q := 388) dX12_doLine_386 rfl rfl ?_
    refine ex_iload (q := 390) dX12_doLine_388 rfl rfl ?_
    obtain ⟨g5, hF⟩ := zg hF
    obtain ⟨r4, h4, e4, hF⟩ := zb_some hF
    refine ex_callV (d' := 2) (q := 393) (as := [vi l4, vi l7]) (st1 := []) (r := none) (h2 := h4) dX12_doLine_390 rfl (run_X12_beginAct e4) mc_X12_beginAct mv_X12_beginAct ml_X12_343 (by decide) g5 rfl rfl (Nat.le_of_ble_eq_true rfl) rfl ?_
    refine ex_goto (q := 403) dX12_doLine_393 (by decide) ?_
    refine ex_goto (q := 483) dX12_doLine_403 (by decide) ?_
    obtain ⟨rfl, rfl⟩ := zr hF
    exact ex_ret none rfl ⟨dX12_doLine_483, rfl⟩ ⟨rfl, rfl⟩
def F_X12_doLine_243 (l0 l2 l4 l6 l7 : Int) (h : zH) : zO := if 0 ≤ l0 then (if l7 ≠ gt h 12 l0 0 then (zb (F_X12_newLoan l0 l7 0 (-1) h) (fun r3 h3 => if 0 ≤ gt h 12 l0 32 then (if 0 ≤ wI (l6 + l4) ∧ wI (l6 + l4) < 88 then (some (0, (pt h3 74 (gt h 12 l0 32) (wI (l6 + l4)) r3))) else none) else none)) else (zb (F_X12_fail l0 7 l2 (-1) h) (fun r6 h6 => some (0, h6)))) else none
set_option maxHeartbeats 1000000 in
theorem x_X12_doLine_243 {l0 l2 l4 l6 l7 : Int} {h : zH} {r : Int} {h' : zH} (hF : F_X12_doLine_243 l0 l2 l4 l6 l7 h = some (r, h')) : Ex 6 M_X12_doLine 243 [some (vr 12 l0), none, some (vi l2), none, some (vi l4), none, some (vi l6), some (vi l7), none] [] h (fun r1 h1 => r1 = none ∧ h1 = h') := by
  unfold F_X12_doLine_243 at hF
  refine ex_iload (q := 245) dX12_doLine_243 rfl rfl ?_
  refine ex_aload_n (q := 246) dX12_doLine_245 rfl rfl ?_
  obtain ⟨g1, hF⟩ := zg hF
  refine ex_get (q := 249) (v := vi (gt h 12 l0 0)) 0 dX12_doLine_246 rfl fl_X12_153 g1 rfl rfl ?_
  refine ex_icmp_ne (q := 252) (tgt := 263) dX12_doLine_249 rfl (by decide) (fun c2 => ?_) (fun c2 => ?_)
  · have hF := ip c2 hF
    refine ex_aload_n (q := 264) dX12_doLine_263 rfl rfl ?_
    refine ex_get (q := 267) (v := vr 74 (gt h 12 l0 32)) 32 dX12_doLine_264 rfl fl_X12_84 g1 rfl rfl ?_
    refine ex_iload (q := 269) dX12_doLine_267 rfl rfl ?_
    refine ex_iload (q := 271) dX12_doLine_269 rfl rfl ?_
    refine ex_iadd (q := 272) dX12_doLine_271 rfl ?_
    refine ex_aload_n (q := 273) dX12_doLine_272 rfl rfl ?_
    refine ex_iload (q := 275) dX12_doLine_273 rfl rfl ?_
    refine ex_iconst (q := 276) dX12_doLine_275 rfl ⟨by decide, by decide⟩ ?_
    refine ex_iconst (q := 277) dX12_doLine_276 rfl ⟨by decide, by decide⟩ ?_
    obtain ⟨r3, h3, e3, hF⟩ := zb_some hF
    refine ex_callV (d' := 1) (q := 280) (as := [vi l7, vi 0, vi (-1)]) (st1 := [vi r3, vi (wI (l6 + l4)), vr 74 (gt h 12 l0 32)]) (r := (some (vi r3))) (h2 := h3) dX12_doLine_277 rfl (run_X12_newLoan e3) mc_X12_newLoan mv_X12_newLoan ml_X12_333 (by decide) g1 rfl rfl (Nat.le_of_ble_eq_true rfl) rfl ?_
    obtain ⟨g4, hF⟩ := zg hF
    obtain ⟨g5, hF⟩ := zg hF
    refine ex_iast (q := 281) dX12_doLine_280 rfl kd_74 g4 g5.1 g5.2 ?_
    refine ex_goto (q := 483) dX12_doLine_281 (by decide) ?_
    obtain ⟨rfl, rfl⟩ := zr hF
    exact ex_ret none rfl ⟨dX12_doLine_483, rfl⟩ ⟨rfl, rfl⟩
  · have hF := im c2 hF
    refine ex_aload_n (q := 253) dX12_doLine_252 rfl rfl ?_
    refine ex_bipush (q := 255) dX12_doLine_253 rfl (by decide) ⟨by decide, by decide⟩ ?_
    refine ex_iload_n (q := 256) dX12_doLine_255 rfl rfl ?_
    refine ex_iconst (q := 257) dX12_doLine_256 rfl ⟨by decide, by decide⟩ ?_
    obtain ⟨r6, h6, e6, hF⟩ := zb_some hF
    refine ex_callV (d' := 4) (q := 260) (as := [vi 7, vi l2, vi (-1)]) (st1 := []) (r := none) (h2 := h6) dX12_doLine_257 rfl (run_X12_fail e6) mc_X12_fail mv_X12_fail ml_X12_330 (by decide) g1 rfl rfl (Nat.le_of_ble_eq_true rfl) rfl ?_
    refine ex_goto (q := 483) dX12_doLine_260 (by decide) ?_
    obtain ⟨rfl, rfl⟩ := zr hF
    exact ex_ret none rfl ⟨dX12_doLine_483, rfl⟩ ⟨rfl, rfl⟩
def F_X12_doLine_206b (ag206 : Int → Int → Int → Int → Int → Int → zH → zO) (l0 l2 l4 l5 l6 l7 : Int) (h : zH) : zO := if 0 ≤ l0 then (if gt h 12 l0 0 ≤ l7 then (F_X12_doLine_243 l0 l2 l4 l6 l7 h) else (if 0 ≤ gt h 12 l0 1 then (if 0 ≤ l7 ∧ l7 < 60 then (if gt h 50 (gt h 12 l0 1) l7 ≠ l5 then (ag206 l0 l2 l4 l5 l6 (wI (l7 + 1)) h) else (if 0 ≤ gt h 12 l0 3 then (if gt h 52 (gt h 12 l0 3) l7 = 0 then (F_X12_doLine_243 l0 l2 l4 l6 l7 h) else (ag206 l0 l2 l4 l5 l6 (wI (l7 + 1)) h)) else none)) else none) else none)) else none
set_option maxHeartbeats 1000000 in
theorem x_X12_doLine_206b {ag206 : Int → Int → Int → Int → Int → Int → zH → zO} (hag206 : ∀ (l0 l2 l4 l5 l6 l7 : Int) (h : zH) (r : Int) (h' : zH), ag206 l0 l2 l4 l5 l6 l7 h = some (r, h') → Ex 6 M_X12_doLine 206 [some (vr 12 l0), none, some (vi l2), none, some (vi l4), some (vi l5), some (vi l6), some (vi l7), none] [] h (fun r1 h1 => r1 = none ∧ h1 = h')) {l0 l2 l4 l5 l6 l7 : Int} {h : zH} {r : Int} {h' : zH} (hF : F_X12_doLine_206b ag206 l0 l2 l4 l5 l6 l7 h = some (r, h')) : Ex 6 M_X12_doLine 206 [some (vr 12 l0), none, some (vi l2), none, some (vi l4), some (vi l5), some (vi l6), some (vi l7), none] [] h (fun r1 h1 => r1 = none ∧ h1 = h') := by
  unfold F_X12_doLine_206b at hF
  refine ex_iload (q := 208) dX12_doLine_206 rfl rfl ?_
  refine ex_aload_n (q := 209) dX12_doLine_208 rfl rfl ?_
  obtain ⟨g1, hF⟩ := zg hF
  refine ex_get (q := 212) (v := vi (gt h 12 l0 0)) 0 dX12_doLine_209 rfl fl_X12_153 g1 rfl rfl ?_
  refine ex_icmp_ge (q := 215) (tgt := 243) dX12_doLine_212 rfl (by decide) (fun c2 => ?_) (fun c2 => ?_)
  · have hF := ip c2 hF
    exact ex_forget (lo' := [some (vr 12 l0), none, some (vi l2), none, some (vi l4), none, some (vi l6), some (vi l7), none]) ⟨Or.inr rfl, Or.inl rfl, Or.inr rfl, Or.inl rfl, Or.inr rfl, Or.inl rfl, Or.inr rfl, Or.inr rfl, Or.inl rfl, trivial⟩ (x_X12_doLine_243 hF)
  · have hF := im c2 hF
    refine ex_aload_n (q := 216) dX12_doLine_215 rfl rfl ?_
    refine ex_get (q := 219) (v := vr 50 (gt h 12 l0 1)) 1 dX12_doLine_216 rfl fl_X12_7 g1 rfl rfl ?_
    refine ex_iload (q := 221) dX12_doLine_219 rfl rfl ?_
    obtain ⟨g3, hF⟩ := zg hF
    obtain ⟨g4, hF⟩ := zg hF
    refine ex_iald (q := 222) dX12_doLine_221 rfl kd_50 g3 g4.1 g4.2 ?_
    refine ex_iload (q := 224) dX12_doLine_222 rfl rfl ?_
    refine ex_icmp_ne (q := 227) (tgt := 237) dX12_doLine_224 rfl (by decide) (fun c5 => ?_) (fun c5 => ?_)
    · have hF := ip c5 hF
      refine ex_iinc (q := 240) (lo' := [some (vr 12 l0), none, some (vi l2), none, some (vi l4), some (vi l5), some (vi l6), some (vi (wI (l7 + 1))), none]) dX12_doLine_237 rfl rfl (by decide) rfl rfl ?_
      refine ex_goto (q := 206) dX12_doLine_240 (by decide) ?_
      exact ex_forget (lo' := [some (vr 12 l0), none, some (vi l2), none, some (vi l4), some (vi l5), some (vi l6), some (vi (wI (l7 + 1))), none]) ⟨Or.inr rfl, Or.inl rfl, Or.inr rfl, Or.inl rfl, Or.inr rfl, Or.inr rfl, Or.inr rfl, Or.inr rfl, Or.inl rfl, trivial⟩ (hag206 _ _ _ _ _ _ _ _ _ hF)
    · have hF := im c5 hF
      refine ex_aload_n (q := 228) dX12_doLine_227 rfl rfl ?_
      refine ex_get (q := 231) (v := vr 52 (gt h 12 l0 3)) 3 dX12_doLine_228 rfl fl_X12_16 g1 rfl rfl ?_
      refine ex_iload (q := 233) dX12_doLine_231 rfl rfl ?_
      obtain ⟨g6, hF⟩ := zg hF
      refine ex_iald (q := 234) dX12_doLine_233 rfl kd_52 g6 g4.1 g4.2 ?_
      refine ex_if_eq (q := 237) (tgt := 243) dX12_doLine_234 rfl (by decide) (fun c7 => ?_) (fun c7 => ?_)
      · have hF := ip c7 hF
        exact ex_forget (lo' := [some (vr 12 l0), none, some (vi l2), none, some (vi l4), none, some (vi l6), some (vi l7), none]) ⟨Or.inr rfl, Or.inl rfl, Or.inr rfl, Or.inl rfl, Or.inr rfl, Or.inl rfl, Or.inr rfl, Or.inr rfl, Or.inl rfl, trivial⟩ (x_X12_doLine_243 hF)
      · have hF := im c7 hF
        refine ex_iinc (q := 240) (lo' := [some (vr 12 l0), none, some (vi l2), none, some (vi l4), some (vi l5), some (vi l6), some (vi (wI (l7 + 1))), none]) dX12_doLine_237 rfl rfl (by decide) rfl rfl ?_
        refine ex_goto (q := 206) dX12_doLine_240 (by decide) ?_
        exact ex_forget (lo' := [some (vr 12 l0), none, some (vi l2), none, some (vi l4), some (vi l5), some (vi l6), some (vi (wI (l7 + 1))), none]) ⟨Or.inr rfl, Or.inl rfl, Or.inr rfl, Or.inl rfl, Or.inr rfl, Or.inr rfl, Or.inr rfl, Or.inr rfl, Or.inl rfl, trivial⟩ (hag206 _ _ _ _ _ _ _ _ _ hF)
def F_X12_doLine_206 : Nat → Int → Int → Int → Int → Int → Int → zH → zO
  | 0, _, _, _, _, _, _, _ => none
  | n + 1, l0, l2, l4, l5, l6, l7, h => F_X12_doLine_206b (F_X12_doLine_206 n) l0 l2 l4 l5 l6 l7 h
theorem x_X12_doLine_206 : ∀ (n : Nat) (l0 l2 l4 l5 l6 l7 : Int) (h : zH) (r : Int) (h' : zH), F_X12_doLine_206 n l0 l2 l4 l5 l6 l7 h = some (r, h') → Ex 6 M_X12_doLine 206 [some (vr 12 l0), none, some (vi l2), none, some (vi l4), some (vi l5), some (vi l6), some (vi l7), none] [] h (fun r1 h1 => r1 = none ∧ h1 = h')
  | 0, _, _, _, _, _, _, _, _, _, hF => by cases hF
  | n + 1, _, _, _, _, _, _, _, _, _, hF => x_X12_doLine_206b (x_X12_doLine_206 n) hF
def F_X12_doLine_143 (l0 l2 l5 : Int) (h : zH) : zO := if 0 ≤ l0 then (zb (F_X12_fail l0 2 l2 l5 h) (fun r1 h1 => some (0, h1))) else none
set_option maxHeartbeats 1000000 in
theorem x_X12_doLine_143 {l0 l2 l5 : Int} {h : zH} {r : Int} {h' : zH} (hF : F_X12_doLine_143 l0 l2 l5 h = some (r, h')) : Ex 6 M_X12_doLine 143 [some (vr 12 l0), none, some (vi l2), none, none, some (vi l5), none, none, none] [] h (fun r1 h1 => r1 = none ∧ h1 = h') := by
  unfold F_X12_doLine_143 at hF
  refine ex_aload_n (q := 144) dX12_doLine_143 rfl rfl ?_
  refine ex_iconst (q := 145) dX12_doLine_144 rfl ⟨by decide, by decide⟩ ?_
  refine ex_iload_n (q := 146) dX12_doLine_145 rfl rfl ?_
  refine ex_iload (q := 148) dX12_doLine_146 rfl rfl ?_
  obtain ⟨g2, hF⟩ := zg hF
  obtain ⟨r1, h1, e1, hF⟩ := zb_some hF
  refine ex_callV (d' := 4) (q := 151) (as := [vi 2, vi l2, vi l5]) (st1 := []) (r := none) (h2 := h1) dX12_doLine_148 rfl (run_X12_fail e1) mc_X12_fail mv_X12_fail ml_X12_330 (by decide) g2 rfl rfl (Nat.le_of_ble_eq_true rfl) rfl ?_
  refine ex_goto (q := 483) dX12_doLine_151 (by decide) ?_
  obtain ⟨rfl, rfl⟩ := zr hF
  exact ex_ret none rfl ⟨dX12_doLine_483, rfl⟩ ⟨rfl, rfl⟩
def F_X12_doLine_0 (l0 l1 l2 : Int) (h : zH) : zO := if 0 ≤ l0 then (if 0 ≤ gt h 12 l0 18 then (if 0 ≤ wI ((wI (40 * l1)) + l2) ∧ wI ((wI (40 * l1)) + l2) < 480 then (if 0 ≤ gt h 12 l0 19 then (if 0 ≤ gt h 12 l0 20 then (zb (F_X12_goTo l0 (wI (l2 + 1)) h) (fun r6 h6 => if gt h 63 (gt h 12 l0 18) (wI ((wI (40 * l1)) + l2)) = 0 ∨ gt h 63 (gt h 12 l0 18) (wI ((wI (40 * l1)) + l2)) = 2 then (zb (F_X12_noPart l0 (gt h 65 (gt h 12 l0 20) (wI ((wI (40 * l1)) + l2))) h6) (fun r8 h8 => if r8 ≠ 0 then (F_X12_doLine_143 l0 l2 (gt h 65 (gt h 12 l0 20) (wI ((wI (40 * l1)) + l2))) h8) else (if 0 ≤ gt h8 12 l0 3 then (if 0 ≤ gt h 65 (gt h 12 l0 20) (wI ((wI (40 * l1)) + l2)) ∧ gt h 65 (gt h 12 l0 20) (wI ((wI (40 * l1)) + l2)) < 60 then (if gt h8 52 (gt h8 12 l0 3) (gt h 65 (gt h 12 l0 20) (wI ((wI (40 * l1)) + l2))) = 0 then (if gt h 63 (gt h 12 l0 18) (wI ((wI (40 * l1)) + l2)) ≠ 2 then (zb (F_X12_newLoan l0 (gt h 65 (gt h 12 l0 20) (wI ((wI (40 * l1)) + l2))) 0 (-1) h8) (fun r14 h14 => if 0 ≤ gt h8 12 l0 32 then (if 0 ≤ wI ((wI (8 * (wI ((gt h 12 l0 33) - 1)))) + (gt h 64 (gt h 12 l0 19) (wI ((wI (40 * l1)) + l2)))) ∧ wI ((wI (8 * (wI ((gt h 12 l0 33) - 1)))) + (gt h 64 (gt h 12 l0 19) (wI ((wI (40 * l1)) + l2)))) < 88 then (zl (pt h14 74 (gt h8 12 l0 32) (wI ((wI (8 * (wI ((gt h 12 l0 33) - 1)))) + (gt h 64 (gt h 12 l0 19) (wI ((wI (40 * l1)) + l2))))) r14) (fun k17 => if gt h 63 (gt h 12 l0 18) (wI ((wI (40 * l1)) + l2)) ≠ 2 then (some (0, k17)) else (if 0 ≤ gt k17 12 l0 32 then (zb (F_X12_trace l0 (gt k17 74 (gt k17 12 l0 32) (wI ((wI (8 * (wI ((gt h 12 l0 33) - 1)))) + (gt h 64 (gt h 12 l0 19) (wI ((wI (40 * l1)) + l2)))))) k17) (fun r20 h20 => some (0, h20))) else none))) else none) else none)) else (zb (F_X12_newLoan l0 (gt h 65 (gt h 12 l0 20) (wI ((wI (40 * l1)) + l2))) 1 (-1) h8) (fun r21 h21 => if 0 ≤ gt h8 12 l0 32 then (if 0 ≤ wI ((wI (8 * (wI ((gt h 12 l0 33) - 1)))) + (gt h 64 (gt h 12 l0 19) (wI ((wI (40 * l1)) + l2)))) ∧ wI ((wI (8 * (wI ((gt h 12 l0 33) - 1)))) + (gt h 64 (gt h 12 l0 19) (wI ((wI (40 * l1)) + l2)))) < 88 then (zl (pt h21 74 (gt h8 12 l0 32) (wI ((wI (8 * (wI ((gt h 12 l0 33) - 1)))) + (gt h 64 (gt h 12 l0 19) (wI ((wI (40 * l1)) + l2))))) r21) (fun k24 => if gt h 63 (gt h 12 l0 18) (wI ((wI (40 * l1)) + l2)) ≠ 2 then (some (0, k24)) else (if 0 ≤ gt k24 12 l0 32 then (zb (F_X12_trace l0 (gt k24 74 (gt k24 12 l0 32) (wI ((wI (8 * (wI ((gt h 12 l0 33) - 1)))) + (gt h 64 (gt h 12 l0 19) (wI ((wI (40 * l1)) + l2)))))) k24) (fun r27 h27 => some (0, h27))) else none))) else none) else none))) else (F_X12_doLine_143 l0 l2 (gt h 65 (gt h 12 l0 20) (wI ((wI (40 * l1)) + l2))) h8)) else none) else none))) else (if gt h 63 (gt h 12 l0 18) (wI ((wI (40 * l1)) + l2)) = 1 then (F_X12_doLine_206 zF l0 l2 (gt h 64 (gt h 12 l0 19) (wI ((wI (40 * l1)) + l2))) (gt h 65 (gt h 12 l0 20) (wI ((wI (40 * l1)) + l2))) (wI (8 * (wI ((gt h 12 l0 33) - 1)))) 0 h6) else (if gt h 63 (gt h 12 l0 18) (wI ((wI (40 * l1)) + l2)) = 3 ∨ gt h 63 (gt h 12 l0 18) (wI ((wI (40 * l1)) + l2)) = 4 ∨ gt h 63 (gt h 12 l0 18) (wI ((wI (40 * l1)) + l2)) = 5 ∨ gt h 63 (gt h 12 l0 18) (wI ((wI (40 * l1)) + l2)) = 6 then (if 0 ≤ gt h6 12 l0 32 then (if 0 ≤ wI ((wI (8 * (wI ((gt h 12 l0 33) - 1)))) + (gt h 64 (gt h 12 l0 19) (wI ((wI (40 * l1)) + l2)))) ∧ wI ((wI (8 * (wI ((gt h 12 l0 33) - 1)))) + (gt h 64 (gt h 12 l0 19) (wI ((wI (40 * l1)) + l2)))) < 88 then (zb (F_X12_doSlot l0 (gt h 63 (gt h 12 l0 18) (wI ((wI (40 * l1)) + l2))) l2 (gt h6 74 (gt h6 12 l0 32) (wI ((wI (8 * (wI ((gt h 12 l0 33) - 1)))) + (gt h 64 (gt h 12 l0 19) (wI ((wI (40 * l1)) + l2)))))) (gt h 65 (gt h 12 l0 20) (wI ((wI (40 * l1)) + l2))) (wI (8 * (wI ((gt h 12 l0 33) - 1)))) h6) (fun r32 h32 => some (0, h32))) else none) else none) else (if gt h 63 (gt h 12 l0 18) (wI ((wI (40 * l1)) + l2)) = 7 then (if gt h6 12 l0 33 ≠ 10 then (if 0 ≤ gt h6 12 l0 32 then (if 0 ≤ wI ((wI (8 * (wI ((gt h 12 l0 33) - 1)))) + (gt h 65 (gt h 12 l0 20) (wI ((wI (40 * l1)) + l2)))) ∧ wI ((wI (8 * (wI ((gt h 12 l0 33) - 1)))) + (gt h 65 (gt h 12 l0 20) (wI ((wI (40 * l1)) + l2)))) < 88 then (zb (F_X12_noAct l0 (gt h 64 (gt h 12 l0 19) (wI ((wI (40 * l1)) + l2))) h6) (fun r37 h37 => if r37 ≠ 0 then (F_X12_doLine_380 l0 l2 (gt h 64 (gt h 12 l0 19) (wI ((wI (40 * l1)) + l2))) (gt h6 74 (gt h6 12 l0 32) (wI ((wI (8 * (wI ((gt h 12 l0 33) - 1)))) + (gt h 65 (gt h 12 l0 20) (wI ((wI (40 * l1)) + l2)))))) 0 h37) else (zb (F_X12_judge l0 (gt h 64 (gt h 12 l0 19) (wI ((wI (40 * l1)) + l2))) h37) (fun r41 h41 => if gt h41 12 l0 21 ≠ 0 then (F_X12_doLine_380 l0 l2 (gt h 64 (gt h 12 l0 19) (wI ((wI (40 * l1)) + l2))) (gt h6 74 (gt h6 12 l0 32) (wI ((wI (8 * (wI ((gt h 12 l0 33) - 1)))) + (gt h 65 (gt h 12 l0 20) (wI ((wI (40 * l1)) + l2)))))) 0 h41) else (F_X12_doLine_380 l0 l2 (gt h 64 (gt h 12 l0 19) (wI ((wI (40 * l1)) + l2))) (gt h6 74 (gt h6 12 l0 32) (wI ((wI (8 * (wI ((gt h 12 l0 33) - 1)))) + (gt h 65 (gt h 12 l0 20) (wI ((wI (40 * l1)) + l2)))))) 1 h41))))) else none) else none) else (zb (F_X12_fail l0 8 l2 (-1) h6) (fun r43 h43 => some (0, h43)))) else (if gt h 63 (gt h 12 l0 18) (wI ((wI (40 * l1)) + l2)) = 8 then (zb (F_X12_fail l0 (gt h 64 (gt h 12 l0 19) (wI ((wI (40 * l1)) + l2))) l2 (-1) h6) (fun r45 h45 => some (0, h45))) else (if gt h 63 (gt h 12 l0 18) (wI ((wI (40 * l1)) + l2)) = 9 then (some (0, (pt h6 12 l0 52 1))) else (if gt h 63 (gt h 12 l0 18) (wI ((wI (40 * l1)) + l2)) = 10 then (some (0, (pt h6 12 l0 52 2))) else (if gt h 63 (gt h 12 l0 18) (wI ((wI (40 * l1)) + l2)) = 11 then (if gt h 64 (gt h 12 l0 19) (wI ((wI (40 * l1)) + l2)) ≠ 0 then (zb (F_X12_begin l0 11 l2 (wI ((gt h 64 (gt h 12 l0 19) (wI ((wI (40 * l1)) + l2))) - 1)) h6) (fun r50 h50 => some (0, h50))) else (zb (F_X12_endOf l0 l1 l2 h6) (fun r51 h51 => zb (F_X12_goTo l0 (wI (r51 + 1)) h51) (fun r52 h52 => some (0, h52))))) else (if gt h 63 (gt h 12 l0 18) (wI ((wI (40 * l1)) + l2)) = 12 then (zb (F_X12_beginScope l0 l2 h6) (fun r54 h54 => some (0, h54))) else (zb (F_X12_begin l0 13 l2 0 h6) (fun r55 h55 => some (0, h55))))))))))))) else none) else none) else none) else none) else none
set_option maxHeartbeats 1000000 in
theorem x_X12_doLine_0 {l0 l1 l2 : Int} {h : zH} {r : Int} {h' : zH} (hF : F_X12_doLine_0 l0 l1 l2 h = some (r, h')) : Ex 6 M_X12_doLine 0 [some (vr 12 l0), some (vi l1), some (vi l2), none, none, none, none, none, none] [] h (fun r1 h1 => r1 = none ∧ h1 = h') := by
  unfold F_X12_doLine_0 at hF
  refine ex_aload_n (q := 1) dX12_doLine_0 rfl rfl ?_
  obtain ⟨g1, hF⟩ := zg hF
  refine ex_get (q := 4) (v := vr 63 (gt h 12 l0 18)) 18 dX12_doLine_1 rfl fl_X12_50 g1 rfl rfl ?_
  refine ex_bipush (q := 6) dX12_doLine_4 rfl (by decide) ⟨by decide, by decide⟩ ?_
  refine ex_iload_n (q := 7) dX12_doLine_6 rfl rfl ?_
  refine ex_imul (q := 8) dX12_doLine_7 rfl ?_
  refine ex_iload_n (q := 9) dX12_doLine_8 rfl rfl ?_
  refine ex_iadd (q := 10) dX12_doLine_9 rfl ?_
  obtain ⟨g2, hF⟩ := zg hF
  obtain ⟨g3, hF⟩ := zg hF
  refine ex_iald (q := 11) dX12_doLine_10 rfl kd_63 g2 g3.1 g3.2 ?_
  refine ex_istore_n (q := 12) (lo' := [some (vr 12 l0), some (vi l1), some (vi l2), some (vi (gt h 63 (gt h 12 l0 18) (wI ((wI (40 * l1)) + l2)))), none, none, none, none, none]) dX12_doLine_11 rfl (by decide) rfl rfl ?_
  refine ex_aload_n (q := 13) dX12_doLine_12 rfl rfl ?_
  refine ex_get (q := 16) (v := vr 64 (gt h 12 l0 19)) 19 dX12_doLine_13 rfl fl_X12_53 g1 rfl rfl ?_
  refine ex_bipush (q := 18) dX12_doLine_16 rfl (by decide) ⟨by decide, by decide⟩ ?_
  refine ex_iload_n (q := 19) dX12_doLine_18 rfl rfl ?_
  refine ex_imul (q := 20) dX12_doLine_19 rfl ?_
  refine ex_iload_n (q := 21) dX12_doLine_20 rfl rfl ?_
  refine ex_iadd (q := 22) dX12_doLine_21 rfl ?_
  obtain ⟨g4, hF⟩ := zg hF
  refine ex_iald (q := 23) dX12_doLine_22 rfl kd_64 g4 g3.1 g3.2 ?_
  refine ex_istore (q := 25) (lo' := [some (vr 12 l0), some (vi l1), some (vi l2), some (vi (gt h 63 (gt h 12 l0 18) (wI ((wI (40 * l1)) + l2)))), some (vi (gt h 64 (gt h 12 l0 19) (wI ((wI (40 * l1)) + l2)))), none, none, none, none]) dX12_doLine_23 rfl (by decide) rfl rfl ?_
  refine ex_aload_n (q := 26) dX12_doLine_25 rfl rfl ?_
  refine ex_get (q := 29) (v := vr 65 (gt h 12 l0 20)) 20 dX12_doLine_26 rfl fl_X12_56 g1 rfl rfl ?_
  refine ex_bipush (q := 31) dX12_doLine_29 rfl (by decide) ⟨by decide, by decide⟩ ?_
  refine ex_iload_n (q := 32) dX12_doLine_31 rfl rfl ?_
  refine ex_imul (q := 33) dX12_doLine_32 rfl ?_
  refine ex_iload_n (q := 34) dX12_doLine_33 rfl rfl ?_
  refine ex_iadd (q := 35) dX12_doLine_34 rfl ?_
  obtain ⟨g5, hF⟩ := zg hF
  refine ex_iald (q := 36) dX12_doLine_35 rfl kd_65 g5 g3.1 g3.2 ?_
  refine ex_istore (q := 38) (lo' := [some (vr 12 l0), some (vi l1), some (vi l2), some (vi (gt h 63 (gt h 12 l0 18) (wI ((wI (40 * l1)) + l2)))), some (vi (gt h 64 (gt h 12 l0 19) (wI ((wI (40 * l1)) + l2)))), some (vi (gt h 65 (gt h 12 l0 20) (wI ((wI (40 * l1)) + l2)))), none, none, none]) dX12_doLine_36 rfl (by decide) rfl rfl ?_
  refine ex_bipush (q := 40) dX12_doLine_38 rfl (by decide) ⟨by decide, by decide⟩ ?_
  refine ex_aload_n (q := 41) dX12_doLine_40 rfl rfl ?_
  refine ex_get (q := 44) (v := vi (gt h 12 l0 33)) 33 dX12_doLine_41 rfl fl_X12_223 g1 rfl rfl ?_
  refine ex_iconst (q := 45) dX12_doLine_44 rfl ⟨by decide, by decide⟩ ?_
  refine ex_isub (q := 46) dX12_doLine_45 rfl ?_
  refine ex_imul (q := 47) dX12_doLine_46 rfl ?_
  refine ex_istore (q := 49) (lo' := [some (vr 12 l0), some (vi l1), some (vi l2), some (vi (gt h 63 (gt h 12 l0 18) (wI ((wI (40 * l1)) + l2)))), some (vi (gt h 64 (gt h 12 l0 19) (wI ((wI (40 * l1)) + l2)))), some (vi (gt h 65 (gt h 12 l0 20) (wI ((wI (40 * l1)) + l2)))), some (vi (wI (8 * (wI ((gt h 12 l0 33) - 1))))), none, none]) dX12_doLine_47 rfl (by decide) rfl rfl ?_
  refine ex_aload_n (q := 50) dX12_doLine_49 rfl rfl ?_
  refine ex_iload_n (q := 51) dX12_doLine_50 rfl rfl ?_
  refine ex_iconst (q := 52) dX12_doLine_51 rfl ⟨by decide, by decide⟩ ?_
  refine ex_iadd (q := 53) dX12_doLine_52 rfl ?_
  obtain ⟨r6, h6, e6, hF⟩ := zb_some hF
  refine ex_callV (d' := 0) (q := 56) (as := [vi (wI (l2 + 1))]) (st1 := []) (r := none) (h2 := h6) dX12_doLine_53 rfl (run_X12_goTo e6) mc_X12_goTo mv_X12_goTo ml_X12_230 (by decide) g1 rfl rfl (Nat.le_of_ble_eq_true rfl) rfl ?_
  refine ex_iload_n (q := 57) dX12_doLine_56 rfl rfl ?_
  by_cases c7 : gt h 63 (gt h 12 l0 18) (wI ((wI (40 * l1)) + l2)) = 0 ∨ gt h 63 (gt h 12 l0 18) (wI ((wI (40 * l1)) + l2)) = 2
  · have hF := ip c7 hF
    have K : Ex 6 M_X12_doLine 124 [some (vr 12 l0), some (vi l1), some (vi l2), some (vi (gt h 63 (gt h 12 l0 18) (wI ((wI (40 * l1)) + l2)))), some (vi (gt h 64 (gt h 12 l0 19) (wI ((wI (40 * l1)) + l2)))), some (vi (gt h 65 (gt h 12 l0 20) (wI ((wI (40 * l1)) + l2)))), some (vi (wI (8 * (wI ((gt h 12 l0 33) - 1))))), none, none] [] h6 (fun r1 h1 => r1 = none ∧ h1 = h') := by
      refine ex_aload_n (q := 125) dX12_doLine_124 rfl rfl ?_
      refine ex_iload (q := 127) dX12_doLine_125 rfl rfl ?_
      obtain ⟨r8, h8, e8, hF⟩ := zb_some hF
      refine ex_callV (d' := 1) (q := 130) (as := [vi (gt h 65 (gt h 12 l0 20) (wI ((wI (40 * l1)) + l2)))]) (st1 := [vi r8]) (r := (some (vi r8))) (h2 := h8) dX12_doLine_127 rfl (run_X12_noPart e8) mc_X12_noPart mv_X12_noPart ml_X12_156 (by decide) g1 rfl rfl (Nat.le_of_ble_eq_true rfl) rfl ?_
      refine ex_if_ne (q := 133) (tgt := 143) dX12_doLine_130 rfl (by decide) (fun c9 => ?_) (fun c9 => ?_)
      · have hF := ip c9 hF
        exact ex_forget (lo' := [some (vr 12 l0), none, some (vi l2), none, none, some (vi (gt h 65 (gt h 12 l0 20) (wI ((wI (40 * l1)) + l2)))), none, none, none]) ⟨Or.inr rfl, Or.inl rfl, Or.inr rfl, Or.inl rfl, Or.inl rfl, Or.inr rfl, Or.inl rfl, Or.inl rfl, Or.inl rfl, trivial⟩ (x_X12_doLine_143 hF)
      · have hF := im c9 hF
        refine ex_aload_n (q := 134) dX12_doLine_133 rfl rfl ?_
        refine ex_get (q := 137) (v := vr 52 (gt h8 12 l0 3)) 3 dX12_doLine_134 rfl fl_X12_16 g1 rfl rfl ?_
        refine ex_iload (q := 139) dX12_doLine_137 rfl rfl ?_
        obtain ⟨g10, hF⟩ := zg hF
        obtain ⟨g11, hF⟩ := zg hF
        refine ex_iald (q := 140) dX12_doLine_139 rfl kd_52 g10 g11.1 g11.2 ?_
        refine ex_if_eq (q := 143) (tgt := 154) dX12_doLine_140 rfl (by decide) (fun c12 => ?_) (fun c12 => ?_)
        · have hF := ip c12 hF
          refine ex_aload_n (q := 155) dX12_doLine_154 rfl rfl ?_
          refine ex_get (q := 158) (v := vr 74 (gt h8 12 l0 32)) 32 dX12_doLine_155 rfl fl_X12_84 g1 rfl rfl ?_
          refine ex_iload (q := 160) dX12_doLine_158 rfl rfl ?_
          refine ex_iload (q := 162) dX12_doLine_160 rfl rfl ?_
          refine ex_iadd (q := 163) dX12_doLine_162 rfl ?_
          refine ex_aload_n (q := 164) dX12_doLine_163 rfl rfl ?_
          refine ex_iload (q := 166) dX12_doLine_164 rfl rfl ?_
          refine ex_iload_n (q := 167) dX12_doLine_166 rfl rfl ?_
          refine ex_iconst (q := 168) dX12_doLine_167 rfl ⟨by decide, by decide⟩ ?_
          refine ex_icmp_ne (q := 171) (tgt := 175) dX12_doLine_168 rfl (by decide) (fun c13 => ?_) (fun c13 => ?_)
          · have hF := ip c13 hF
            refine ex_iconst (q := 176) dX12_doLine_175 rfl ⟨by decide, by decide⟩ ?_
            refine ex_iconst (q := 177) dX12_doLine_176 rfl ⟨by decide, by decide⟩ ?_
            obtain ⟨r14, h14, e14, hF⟩ := zb_some hF
            refine ex_callV (d' := 1) (q := 180) (as := [vi (gt h 65 (gt h 12 l0 20) (wI ((wI (40 * l1)) + l2))), vi 0, vi (-1)]) (st1 := [vi r14, vi (wI ((wI (8 * (wI ((gt h 12 l0 33) - 1)))) + (gt h 64 (gt h 12 l0 19) (wI ((wI (40 * l1)) + l2))))), vr 74 (gt h8 12 l0 32)]) (r := (some (vi r14))) (h2 := h14) dX12_doLine_177 rfl (run_X12_newLoan e14) mc_X12_newLoan mv_X12_newLoan ml_X12_333 (by decide) g1 rfl rfl (Nat.le_of_ble_eq_true rfl) rfl ?_
            obtain ⟨g15, hF⟩ := zg hF
            obtain ⟨g16, hF⟩ := zg hF
            refine ex_iast (q := 181) dX12_doLine_180 rfl kd_74 g15 g16.1 g16.2 ?_
            have hF := zl_e hF
            generalize pt h14 74 (gt h8 12 l0 32) (wI ((wI (8 * (wI ((gt h 12 l0 33) - 1)))) + (gt h 64 (gt h 12 l0 19) (wI ((wI (40 * l1)) + l2))))) r14 = k17 at hF ⊢
            refine ex_iload_n (q := 182) dX12_doLine_181 rfl rfl ?_
            refine ex_iconst (q := 183) dX12_doLine_182 rfl ⟨by decide, by decide⟩ ?_
            refine ex_icmp_ne (q := 186) (tgt := 483) dX12_doLine_183 rfl (by decide) (fun c18 => ?_) (fun c18 => ?_)
            · have hF := ip c18 hF
              obtain ⟨rfl, rfl⟩ := zr hF
              exact ex_ret none rfl ⟨dX12_doLine_483, rfl⟩ ⟨rfl, rfl⟩
            · have hF := im c18 hF
              refine ex_aload_n (q := 187) dX12_doLine_186 rfl rfl ?_
              refine ex_aload_n (q := 188) dX12_doLine_187 rfl rfl ?_
              refine ex_get (q := 191) (v := vr 74 (gt k17 12 l0 32)) 32 dX12_doLine_188 rfl fl_X12_84 g1 rfl rfl ?_
              refine ex_iload (q := 193) dX12_doLine_191 rfl rfl ?_
              refine ex_iload (q := 195) dX12_doLine_193 rfl rfl ?_
              refine ex_iadd (q := 196) dX12_doLine_195 rfl ?_
              obtain ⟨g19, hF⟩ := zg hF
              refine ex_iald (q := 197) dX12_doLine_196 rfl kd_74 g19 g16.1 g16.2 ?_
              obtain ⟨r20, h20, e20, hF⟩ := zb_some hF
              refine ex_callV (d' := 0) (q := 200) (as := [vi (gt k17 74 (gt k17 12 l0 32) (wI ((wI (8 * (wI ((gt h 12 l0 33) - 1)))) + (gt h 64 (gt h 12 l0 19) (wI ((wI (40 * l1)) + l2))))))]) (st1 := []) (r := none) (h2 := h20) dX12_doLine_197 rfl (run_X12_trace e20) mc_X12_trace mv_X12_trace ml_X12_336 (by decide) g1 rfl rfl (Nat.le_of_ble_eq_true rfl) rfl ?_
              refine ex_goto (q := 483) dX12_doLine_200 (by decide) ?_
              obtain ⟨rfl, rfl⟩ := zr hF
              exact ex_ret none rfl ⟨dX12_doLine_483, rfl⟩ ⟨rfl, rfl⟩
          · have hF := im c13 hF
            refine ex_iconst (q := 172) dX12_doLine_171 rfl ⟨by decide, by decide⟩ ?_
            refine ex_goto (q := 176) dX12_doLine_172 (by decide) ?_
            refine ex_iconst (q := 177) dX12_doLine_176 rfl ⟨by decide, by decide⟩ ?_
            obtain ⟨r21, h21, e21, hF⟩ := zb_some hF
            refine ex_callV (d' := 1) (q := 180) (as := [vi (gt h 65 (gt h 12 l0 20) (wI ((wI (40 * l1)) + l2))), vi 1, vi (-1)]) (st1 := [vi r21, vi (wI ((wI (8 * (wI ((gt h 12 l0 33) - 1)))) + (gt h 64 (gt h 12 l0 19) (wI ((wI (40 * l1)) + l2))))), vr 74 (gt h8 12 l0 32)]) (r := (some (vi r21))) (h2 := h21) dX12_doLine_177 rfl (run_X12_newLoan e21) mc_X12_newLoan mv_X12_newLoan ml_X12_333 (by decide) g1 rfl rfl (Nat.le_of_ble_eq_true rfl) rfl ?_
            obtain ⟨g22, hF⟩ := zg hF
            obtain ⟨g23, hF⟩ := zg hF
            refine ex_iast (q := 181) dX12_doLine_180 rfl kd_74 g22 g23.1 g23.2 ?_
            have hF := zl_e hF
            generalize pt h21 74 (gt h8 12 l0 32) (wI ((wI (8 * (wI ((gt h 12 l0 33) - 1)))) + (gt h 64 (gt h 12 l0 19) (wI ((wI (40 * l1)) + l2))))) r21 = k24 at hF ⊢
            refine ex_iload_n (q := 182) dX12_doLine_181 rfl rfl ?_
            refine ex_iconst (q := 183) dX12_doLine_182 rfl ⟨by decide, by decide⟩ ?_
            refine ex_icmp_ne (q := 186) (tgt := 483) dX12_doLine_183 rfl (by decide) (fun c25 => ?_) (fun c25 => ?_)
            · have hF := ip c25 hF
              obtain ⟨rfl, rfl⟩ := zr hF
              exact ex_ret none rfl ⟨dX12_doLine_483, rfl⟩ ⟨rfl, rfl⟩
            · have hF := im c25 hF
              refine ex_aload_n (q := 187) dX12_doLine_186 rfl rfl ?_
              refine ex_aload_n (q := 188) dX12_doLine_187 rfl rfl ?_
              refine ex_get (q := 191) (v := vr 74 (gt k24 12 l0 32)) 32 dX12_doLine_188 rfl fl_X12_84 g1 rfl rfl ?_
              refine ex_iload (q := 193) dX12_doLine_191 rfl rfl ?_
              refine ex_iload (q := 195) dX12_doLine_193 rfl rfl ?_
              refine ex_iadd (q := 196) dX12_doLine_195 rfl ?_
              obtain ⟨g26, hF⟩ := zg hF
              refine ex_iald (q := 197) dX12_doLine_196 rfl kd_74 g26 g23.1 g23.2 ?_
              obtain ⟨r27, h27, e27, hF⟩ := zb_some hF
              refine ex_callV (d' := 0) (q := 200) (as := [vi (gt k24 74 (gt k24 12 l0 32) (wI ((wI (8 * (wI ((gt h 12 l0 33) - 1)))) + (gt h 64 (gt h 12 l0 19) (wI ((wI (40 * l1)) + l2))))))]) (st1 := []) (r := none) (h2 := h27) dX12_doLine_197 rfl (run_X12_trace e27) mc_X12_trace mv_X12_trace ml_X12_336 (by decide) g1 rfl rfl (Nat.le_of_ble_eq_true rfl) rfl ?_
              refine ex_goto (q := 483) dX12_doLine_200 (by decide) ?_
              obtain ⟨rfl, rfl⟩ := zr hF
              exact ex_ret none rfl ⟨dX12_doLine_483, rfl⟩ ⟨rfl, rfl⟩
        · have hF := im c12 hF
          exact ex_forget (lo' := [some (vr 12 l0), none, some (vi l2), none, none, some (vi (gt h 65 (gt h 12 l0 20) (wI ((wI (40 * l1)) + l2)))), none, none, none]) ⟨Or.inr rfl, Or.inl rfl, Or.inr rfl, Or.inl rfl, Or.inl rfl, Or.inr rfl, Or.inl rfl, Or.inl rfl, Or.inl rfl, trivial⟩ (x_X12_doLine_143 hF)
    rcases c7 with c7 | c7
    · exact ex_tsw 0 (tgt := 124) dX12_doLine_57 c7 (by decide) (by decide) rfl (by decide) K
    · exact ex_tsw 2 (tgt := 124) dX12_doLine_57 c7 (by decide) (by decide) rfl (by decide) K
  · have hF := im c7 hF
    by_cases c28 : gt h 63 (gt h 12 l0 18) (wI ((wI (40 * l1)) + l2)) = 1
    · have hF := ip c28 hF
      refine ex_tsw 1 (tgt := 203) dX12_doLine_57 c28 (by decide) (by decide) rfl (by decide) ?_
      refine ex_iconst (q := 204) dX12_doLine_203 rfl ⟨by decide, by decide⟩ ?_
      refine ex_istore (q := 206) (lo' := [some (vr 12 l0), some (vi l1), some (vi l2), some (vi (gt h 63 (gt h 12 l0 18) (wI ((wI (40 * l1)) + l2)))), some (vi (gt h 64 (gt h 12 l0 19) (wI ((wI (40 * l1)) + l2)))), some (vi (gt h 65 (gt h 12 l0 20) (wI ((wI (40 * l1)) + l2)))), some (vi (wI (8 * (wI ((gt h 12 l0 33) - 1))))), some (vi 0), none]) dX12_doLine_204 rfl (by decide) rfl rfl ?_
      exact ex_forget (lo' := [some (vr 12 l0), none, some (vi l2), none, some (vi (gt h 64 (gt h 12 l0 19) (wI ((wI (40 * l1)) + l2)))), some (vi (gt h 65 (gt h 12 l0 20) (wI ((wI (40 * l1)) + l2)))), some (vi (wI (8 * (wI ((gt h 12 l0 33) - 1))))), some (vi 0), none]) ⟨Or.inr rfl, Or.inl rfl, Or.inr rfl, Or.inl rfl, Or.inr rfl, Or.inr rfl, Or.inr rfl, Or.inr rfl, Or.inl rfl, trivial⟩ (x_X12_doLine_206 _ _ _ _ _ _ _ _ _ _ hF)
    · have hF := im c28 hF
      by_cases c29 : gt h 63 (gt h 12 l0 18) (wI ((wI (40 * l1)) + l2)) = 3 ∨ gt h 63 (gt h 12 l0 18) (wI ((wI (40 * l1)) + l2)) = 4 ∨ gt h 63 (gt h 12 l0 18) (wI ((wI (40 * l1)) + l2)) = 5 ∨ gt h 63 (gt h 12 l0 18) (wI ((wI (40 * l1)) + l2)) = 6
      · have hF := ip c29 hF
        have K : Ex 6 M_X12_doLine 284 [some (vr 12 l0), some (vi l1), some (vi l2), some (vi (gt h 63 (gt h 12 l0 18) (wI ((wI (40 * l1)) + l2)))), some (vi (gt h 64 (gt h 12 l0 19) (wI ((wI (40 * l1)) + l2)))), some (vi (gt h 65 (gt h 12 l0 20) (wI ((wI (40 * l1)) + l2)))), some (vi (wI (8 * (wI ((gt h 12 l0 33) - 1))))), none, none] [] h6 (fun r1 h1 => r1 = none ∧ h1 = h') := by
          refine ex_aload_n (q := 285) dX12_doLine_284 rfl rfl ?_
          refine ex_iload_n (q := 286) dX12_doLine_285 rfl rfl ?_
          refine ex_iload_n (q := 287) dX12_doLine_286 rfl rfl ?_
          refine ex_aload_n (q := 288) dX12_doLine_287 rfl rfl ?_
          refine ex_get (q := 291) (v := vr 74 (gt h6 12 l0 32)) 32 dX12_doLine_288 rfl fl_X12_84 g1 rfl rfl ?_
          refine ex_iload (q := 293) dX12_doLine_291 rfl rfl ?_
          refine ex_iload (q := 295) dX12_doLine_293 rfl rfl ?_
          refine ex_iadd (q := 296) dX12_doLine_295 rfl ?_
          obtain ⟨g30, hF⟩ := zg hF
          obtain ⟨g31, hF⟩ := zg hF
          refine ex_iald (q := 297) dX12_doLine_296 rfl kd_74 g30 g31.1 g31.2 ?_
          refine ex_iload (q := 299) dX12_doLine_297 rfl rfl ?_
          refine ex_iload (q := 301) dX12_doLine_299 rfl rfl ?_
          obtain ⟨r32, h32, e32, hF⟩ := zb_some hF
          refine ex_callV (d' := 5) (q := 304) (as := [vi (gt h 63 (gt h 12 l0 18) (wI ((wI (40 * l1)) + l2))), vi l2, vi (gt h6 74 (gt h6 12 l0 32) (wI ((wI (8 * (wI ((gt h 12 l0 33) - 1)))) + (gt h 64 (gt h 12 l0 19) (wI ((wI (40 * l1)) + l2)))))), vi (gt h 65 (gt h 12 l0 20) (wI ((wI (40 * l1)) + l2))), vi (wI (8 * (wI ((gt h 12 l0 33) - 1))))]) (st1 := []) (r := none) (h2 := h32) dX12_doLine_301 rfl (run_X12_doSlot e32) mc_X12_doSlot mv_X12_doSlot ml_X12_339 (by decide) g1 rfl rfl (Nat.le_of_ble_eq_true rfl) rfl ?_
          refine ex_goto (q := 483) dX12_doLine_304 (by decide) ?_
          obtain ⟨rfl, rfl⟩ := zr hF
          exact ex_ret none rfl ⟨dX12_doLine_483, rfl⟩ ⟨rfl, rfl⟩
        rcases c29 with c29 | c29 | c29 | c29
        · exact ex_tsw 3 (tgt := 284) dX12_doLine_57 c29 (by decide) (by decide) rfl (by decide) K
        · exact ex_tsw 4 (tgt := 284) dX12_doLine_57 c29 (by decide) (by decide) rfl (by decide) K
        · exact ex_tsw 5 (tgt := 284) dX12_doLine_57 c29 (by decide) (by decide) rfl (by decide) K
        · exact ex_tsw 6 (tgt := 284) dX12_doLine_57 c29 (by decide) (by decide) rfl (by decide) K
      · have hF := im c29 hF
        by_cases c33 : gt h 63 (gt h 12 l0 18) (wI ((wI (40 * l1)) + l2)) = 7
        · have hF := ip c33 hF
          refine ex_tsw 7 (tgt := 307) dX12_doLine_57 c33 (by decide) (by decide) rfl (by decide) ?_
          refine ex_aload_n (q := 308) dX12_doLine_307 rfl rfl ?_
          refine ex_get (q := 311) (v := vi (gt h6 12 l0 33)) 33 dX12_doLine_308 rfl fl_X12_223 g1 rfl rfl ?_
          refine ex_bipush (q := 313) dX12_doLine_311 rfl (by decide) ⟨by decide, by decide⟩ ?_
          refine ex_icmp_ne (q := 316) (tgt := 327) dX12_doLine_313 rfl (by decide) (fun c34 => ?_) (fun c34 => ?_)
          · have hF := ip c34 hF
            refine ex_aload_n (q := 328) dX12_doLine_327 rfl rfl ?_
            refine ex_get (q := 331) (v := vr 74 (gt h6 12 l0 32)) 32 dX12_doLine_328 rfl fl_X12_84 g1 rfl rfl ?_
            refine ex_iload (q := 333) dX12_doLine_331 rfl rfl ?_
            refine ex_iload (q := 335) dX12_doLine_333 rfl rfl ?_
            refine ex_iadd (q := 336) dX12_doLine_335 rfl ?_
            obtain ⟨g35, hF⟩ := zg hF
            obtain ⟨g36, hF⟩ := zg hF
            refine ex_iald (q := 337) dX12_doLine_336 rfl kd_74 g35 g36.1 g36.2 ?_
            refine ex_istore (q := 339) (lo' := [some (vr 12 l0), some (vi l1), some (vi l2), some (vi (gt h 63 (gt h 12 l0 18) (wI ((wI (40 * l1)) + l2)))), some (vi (gt h 64 (gt h 12 l0 19) (wI ((wI (40 * l1)) + l2)))), some (vi (gt h 65 (gt h 12 l0 20) (wI ((wI (40 * l1)) + l2)))), some (vi (wI (8 * (wI ((gt h 12 l0 33) - 1))))), some (vi (gt h6 74 (gt h6 12 l0 32) (wI ((wI (8 * (wI ((gt h 12 l0 33) - 1)))) + (gt h 65 (gt h 12 l0 20) (wI ((wI (40 * l1)) + l2))))))), none]) dX12_doLine_337 rfl (by decide) rfl rfl ?_
            refine ex_aload_n (q := 340) dX12_doLine_339 rfl rfl ?_
            refine ex_iload (q := 342) dX12_doLine_340 rfl rfl ?_
            obtain ⟨r37, h37, e37, hF⟩ := zb_some hF
            refine ex_callV (d' := 1) (q := 345) (as := [vi (gt h 64 (gt h 12 l0 19) (wI ((wI (40 * l1)) + l2)))]) (st1 := [vi r37]) (r := (some (vi r37))) (h2 := h37) dX12_doLine_342 rfl (run_X12_noAct e37) mc_X12_noAct mv_X12_noAct ml_X12_180 (by decide) g1 rfl rfl (Nat.le_of_ble_eq_true rfl) rfl ?_
            refine ex_if_ne (q := 348) (tgt := 352) dX12_doLine_345 rfl (by decide) (fun c38 => ?_) (fun c38 => ?_)
            · have hF := ip c38 hF
              refine ex_iconst (q := 353) dX12_doLine_352 rfl ⟨by decide, by decide⟩ ?_
              refine ex_istore (q := 355) (lo' := [some (vr 12 l0), some (vi l1), some (vi l2), some (vi (gt h 63 (gt h 12 l0 18) (wI ((wI (40 * l1)) + l2)))), some (vi (gt h 64 (gt h 12 l0 19) (wI ((wI (40 * l1)) + l2)))), some (vi (gt h 65 (gt h 12 l0 20) (wI ((wI (40 * l1)) + l2)))), some (vi (wI (8 * (wI ((gt h 12 l0 33) - 1))))), some (vi (gt h6 74 (gt h6 12 l0 32) (wI ((wI (8 * (wI ((gt h 12 l0 33) - 1)))) + (gt h 65 (gt h 12 l0 20) (wI ((wI (40 * l1)) + l2))))))), some (vi 0)]) dX12_doLine_353 rfl (by decide) rfl rfl ?_
              refine ex_iload (q := 357) dX12_doLine_355 rfl rfl ?_
              refine ex_if_eq (q := 360) (tgt := 380) dX12_doLine_357 rfl (by decide) (fun c39 => ?_) (fun c39 => ?_)
              · exact ex_forget (lo' := [some (vr 12 l0), none, some (vi l2), none, some (vi (gt h 64 (gt h 12 l0 19) (wI ((wI (40 * l1)) + l2)))), none, none, some (vi (gt h6 74 (gt h6 12 l0 32) (wI ((wI (8 * (wI ((gt h 12 l0 33) - 1)))) + (gt h 65 (gt h 12 l0 20) (wI ((wI (40 * l1)) + l2))))))), some (vi 0)]) ⟨Or.inr rfl, Or.inl rfl, Or.inr rfl, Or.inl rfl, Or.inr rfl, Or.inl rfl, Or.inl rfl, Or.inr rfl, Or.inr rfl, trivial⟩ (x_X12_doLine_380 hF)
              · exact absurd (by decide) c39
            · have hF := im c38 hF
              refine ex_iconst (q := 349) dX12_doLine_348 rfl ⟨by decide, by decide⟩ ?_
              refine ex_goto (q := 353) dX12_doLine_349 (by decide) ?_
              refine ex_istore (q := 355) (lo' := [some (vr 12 l0), some (vi l1), some (vi l2), some (vi (gt h 63 (gt h 12 l0 18) (wI ((wI (40 * l1)) + l2)))), some (vi (gt h 64 (gt h 12 l0 19) (wI ((wI (40 * l1)) + l2)))), some (vi (gt h 65 (gt h 12 l0 20) (wI ((wI (40 * l1)) + l2)))), some (vi (wI (8 * (wI ((gt h 12 l0 33) - 1))))), some (vi (gt h6 74 (gt h6 12 l0 32) (wI ((wI (8 * (wI ((gt h 12 l0 33) - 1)))) + (gt h 65 (gt h 12 l0 20) (wI ((wI (40 * l1)) + l2))))))), some (vi 1)]) dX12_doLine_353 rfl (by decide) rfl rfl ?_
              refine ex_iload (q := 357) dX12_doLine_355 rfl rfl ?_
              refine ex_if_eq (q := 360) (tgt := 380) dX12_doLine_357 rfl (by decide) (fun c40 => ?_) (fun c40 => ?_)
              · exact absurd c40 (by decide)
              · refine ex_aload_n (q := 361) dX12_doLine_360 rfl rfl ?_
                refine ex_iload (q := 363) dX12_doLine_361 rfl rfl ?_
                obtain ⟨r41, h41, e41, hF⟩ := zb_some hF
                refine ex_callV (d' := 3) (q := 366) (as := [vi (gt h 64 (gt h 12 l0 19) (wI ((wI (40 * l1)) + l2)))]) (st1 := []) (r := none) (h2 := h41) dX12_doLine_363 rfl (run_X12_judge e41) mc_X12_judge mv_X12_judge ml_X12_209 (by decide) g1 rfl rfl (Nat.le_of_ble_eq_true rfl) rfl ?_
                refine ex_aload_n (q := 367) dX12_doLine_366 rfl rfl ?_
                refine ex_get (q := 370) (v := vi (gt h41 12 l0 21)) 21 dX12_doLine_367 rfl fl_X12_196 g1 rfl rfl ?_
                refine ex_if_ne (q := 373) (tgt := 377) dX12_doLine_370 rfl (by decide) (fun c42 => ?_) (fun c42 => ?_)
                · have hF := ip c42 hF
                  refine ex_iconst (q := 378) dX12_doLine_377 rfl ⟨by decide, by decide⟩ ?_
                  refine ex_istore (q := 380) (lo' := [some (vr 12 l0), some (vi l1), some (vi l2), some (vi (gt h 63 (gt h 12 l0 18) (wI ((wI (40 * l1)) + l2)))), some (vi (gt h 64 (gt h 12 l0 19) (wI ((wI (40 * l1)) + l2)))), some (vi (gt h 65 (gt h 12 l0 20) (wI ((wI (40 * l1)) + l2)))), some (vi (wI (8 * (wI ((gt h 12 l0 33) - 1))))), some (vi (gt h6 74 (gt h6 12 l0 32) (wI ((wI (8 * (wI ((gt h 12 l0 33) - 1)))) + (gt h 65 (gt h 12 l0 20) (wI ((wI (40 * l1)) + l2))))))), some (vi 0)]) dX12_doLine_378 rfl (by decide) rfl rfl ?_
                  exact ex_forget (lo' := [some (vr 12 l0), none, some (vi l2), none, some (vi (gt h 64 (gt h 12 l0 19) (wI ((wI (40 * l1)) + l2)))), none, none, some (vi (gt h6 74 (gt h6 12 l0 32) (wI ((wI (8 * (wI ((gt h 12 l0 33) - 1)))) + (gt h 65 (gt h 12 l0 20) (wI ((wI (40 * l1)) + l2))))))), some (vi 0)]) ⟨Or.inr rfl, Or.inl rfl, Or.inr rfl, Or.inl rfl, Or.inr rfl, Or.inl rfl, Or.inl rfl, Or.inr rfl, Or.inr rfl, trivial⟩ (x_X12_doLine_380 hF)
                · have hF := im c42 hF
                  refine ex_iconst (q := 374) dX12_doLine_373 rfl ⟨by decide, by decide⟩ ?_
                  refine ex_goto (q := 378) dX12_doLine_374 (by decide) ?_
                  refine ex_istore (q := 380) (lo' := [some (vr 12 l0), some (vi l1), some (vi l2), some (vi (gt h 63 (gt h 12 l0 18) (wI ((wI (40 * l1)) + l2)))), some (vi (gt h 64 (gt h 12 l0 19) (wI ((wI (40 * l1)) + l2)))), some (vi (gt h 65 (gt h 12 l0 20) (wI ((wI (40 * l1)) + l2)))), some (vi (wI (8 * (wI ((gt h 12 l0 33) - 1))))), some (vi (gt h6 74 (gt h6 12 l0 32) (wI ((wI (8 * (wI ((gt h 12 l0 33) - 1)))) + (gt h 65 (gt h 12 l0 20) (wI ((wI (40 * l1)) + l2))))))), some (vi 1)]) dX12_doLine_378 rfl (by decide) rfl rfl ?_
                  exact ex_forget (lo' := [some (vr 12 l0), none, some (vi l2), none, some (vi (gt h 64 (gt h 12 l0 19) (wI ((wI (40 * l1)) + l2)))), none, none, some (vi (gt h6 74 (gt h6 12 l0 32) (wI ((wI (8 * (wI ((gt h 12 l0 33) - 1)))) + (gt h 65 (gt h 12 l0 20) (wI ((wI (40 * l1)) + l2))))))), some (vi 1)]) ⟨Or.inr rfl, Or.inl rfl, Or.inr rfl, Or.inl rfl, Or.inr rfl, Or.inl rfl, Or.inl rfl, Or.inr rfl, Or.inr rfl, trivial⟩ (x_X12_doLine_380 hF)
          · have hF := im c34 hF
            refine ex_aload_n (q := 317) dX12_doLine_316 rfl rfl ?_
            refine ex_bipush (q := 319) dX12_doLine_317 rfl (by decide) ⟨by decide, by decide⟩ ?_
            refine ex_iload_n (q := 320) dX12_doLine_319 rfl rfl ?_
            refine ex_iconst (q := 321) dX12_doLine_320 rfl ⟨by decide, by decide⟩ ?_
            obtain ⟨r43, h43, e43, hF⟩ := zb_some hF
            refine ex_callV (d' := 4) (q := 324) (as := [vi 8, vi l2, vi (-1)]) (st1 := []) (r := none) (h2 := h43) dX12_doLine_321 rfl (run_X12_fail e43) mc_X12_fail mv_X12_fail ml_X12_330 (by decide) g1 rfl rfl (Nat.le_of_ble_eq_true rfl) rfl ?_
            refine ex_goto (q := 483) dX12_doLine_324 (by decide) ?_
            obtain ⟨rfl, rfl⟩ := zr hF
            exact ex_ret none rfl ⟨dX12_doLine_483, rfl⟩ ⟨rfl, rfl⟩
        · have hF := im c33 hF
          by_cases c44 : gt h 63 (gt h 12 l0 18) (wI ((wI (40 * l1)) + l2)) = 8
          · have hF := ip c44 hF
            refine ex_tsw 8 (tgt := 406) dX12_doLine_57 c44 (by decide) (by decide) rfl (by decide) ?_
            refine ex_aload_n (q := 407) dX12_doLine_406 rfl rfl ?_
            refine ex_iload (q := 409) dX12_doLine_407 rfl rfl ?_
            refine ex_iload_n (q := 410) dX12_doLine_409 rfl rfl ?_
            refine ex_iconst (q := 411) dX12_doLine_410 rfl ⟨by decide, by decide⟩ ?_
            obtain ⟨r45, h45, e45, hF⟩ := zb_some hF
            refine ex_callV (d' := 4) (q := 414) (as := [vi (gt h 64 (gt h 12 l0 19) (wI ((wI (40 * l1)) + l2))), vi l2, vi (-1)]) (st1 := []) (r := none) (h2 := h45) dX12_doLine_411 rfl (run_X12_fail e45) mc_X12_fail mv_X12_fail ml_X12_330 (by decide) g1 rfl rfl (Nat.le_of_ble_eq_true rfl) rfl ?_
            refine ex_goto (q := 483) dX12_doLine_414 (by decide) ?_
            obtain ⟨rfl, rfl⟩ := zr hF
            exact ex_ret none rfl ⟨dX12_doLine_483, rfl⟩ ⟨rfl, rfl⟩
          · have hF := im c44 hF
            by_cases c46 : gt h 63 (gt h 12 l0 18) (wI ((wI (40 * l1)) + l2)) = 9
            · have hF := ip c46 hF
              refine ex_tsw 9 (tgt := 417) dX12_doLine_57 c46 (by decide) (by decide) rfl (by decide) ?_
              refine ex_aload_n (q := 418) dX12_doLine_417 rfl rfl ?_
              refine ex_iconst (q := 419) dX12_doLine_418 rfl ⟨by decide, by decide⟩ ?_
              refine ex_put (q := 422) 52 dX12_doLine_419 rfl fl_X12_255 (by decide) g1 rfl rfl (fun z => by cases z) ?_
              refine ex_goto (q := 483) dX12_doLine_422 (by decide) ?_
              obtain ⟨rfl, rfl⟩ := zr hF
              exact ex_ret none rfl ⟨dX12_doLine_483, rfl⟩ ⟨rfl, rfl⟩
            · have hF := im c46 hF
              by_cases c47 : gt h 63 (gt h 12 l0 18) (wI ((wI (40 * l1)) + l2)) = 10
              · have hF := ip c47 hF
                refine ex_tsw 10 (tgt := 425) dX12_doLine_57 c47 (by decide) (by decide) rfl (by decide) ?_
                refine ex_aload_n (q := 426) dX12_doLine_425 rfl rfl ?_
                refine ex_iconst (q := 427) dX12_doLine_426 rfl ⟨by decide, by decide⟩ ?_
                refine ex_put (q := 430) 52 dX12_doLine_427 rfl fl_X12_255 (by decide) g1 rfl rfl (fun z => by cases z) ?_
                refine ex_goto (q := 483) dX12_doLine_430 (by decide) ?_
                obtain ⟨rfl, rfl⟩ := zr hF
                exact ex_ret none rfl ⟨dX12_doLine_483, rfl⟩ ⟨rfl, rfl⟩
              · have hF := im c47 hF
                by_cases c48 : gt h 63 (gt h 12 l0 18) (wI ((wI (40 * l1)) + l2)) = 11
                · have hF := ip c48 hF
                  refine ex_tsw 11 (tgt := 433) dX12_doLine_57 c48 (by decide) (by decide) rfl (by decide) ?_
                  refine ex_iload (q := 435) dX12_doLine_433 rfl rfl ?_
                  refine ex_if_ne (q := 438) (tgt := 453) dX12_doLine_435 rfl (by decide) (fun c49 => ?_) (fun c49 => ?_)
                  · have hF := ip c49 hF
                    refine ex_aload_n (q := 454) dX12_doLine_453 rfl rfl ?_
                    refine ex_bipush (q := 456) dX12_doLine_454 rfl (by decide) ⟨by decide, by decide⟩ ?_
                    refine ex_iload_n (q := 457) dX12_doLine_456 rfl rfl ?_
                    refine ex_iload (q := 459) dX12_doLine_457 rfl rfl ?_
                    refine ex_iconst (q := 460) dX12_doLine_459 rfl ⟨by decide, by decide⟩ ?_
                    refine ex_isub (q := 461) dX12_doLine_460 rfl ?_
                    obtain ⟨r50, h50, e50, hF⟩ := zb_some hF
                    refine ex_callV (d' := 0) (q := 464) (as := [vi 11, vi l2, vi (wI ((gt h 64 (gt h 12 l0 19) (wI ((wI (40 * l1)) + l2))) - 1))]) (st1 := []) (r := none) (h2 := h50) dX12_doLine_461 rfl (run_X12_begin e50) mc_X12_begin mv_X12_begin ml_X12_226 (by decide) g1 rfl rfl (Nat.le_of_ble_eq_true rfl) rfl ?_
                    refine ex_goto (q := 483) dX12_doLine_464 (by decide) ?_
                    obtain ⟨rfl, rfl⟩ := zr hF
                    exact ex_ret none rfl ⟨dX12_doLine_483, rfl⟩ ⟨rfl, rfl⟩
                  · have hF := im c49 hF
                    refine ex_aload_n (q := 439) dX12_doLine_438 rfl rfl ?_
                    refine ex_aload_n (q := 440) dX12_doLine_439 rfl rfl ?_
                    refine ex_iload_n (q := 441) dX12_doLine_440 rfl rfl ?_
                    refine ex_iload_n (q := 442) dX12_doLine_441 rfl rfl ?_
                    obtain ⟨r51, h51, e51, hF⟩ := zb_some hF
                    refine ex_callV (d' := 2) (q := 445) (as := [vi l1, vi l2]) (st1 := [vi r51, vr 12 l0]) (r := (some (vi r51))) (h2 := h51) dX12_doLine_442 rfl (run_X12_endOf e51) mc_X12_endOf mv_X12_endOf ml_X12_297 (by decide) g1 rfl rfl (Nat.le_of_ble_eq_true rfl) rfl ?_
                    refine ex_iconst (q := 446) dX12_doLine_445 rfl ⟨by decide, by decide⟩ ?_
                    refine ex_iadd (q := 447) dX12_doLine_446 rfl ?_
                    obtain ⟨r52, h52, e52, hF⟩ := zb_some hF
                    refine ex_callV (d' := 0) (q := 450) (as := [vi (wI (r51 + 1))]) (st1 := []) (r := none) (h2 := h52) dX12_doLine_447 rfl (run_X12_goTo e52) mc_X12_goTo mv_X12_goTo ml_X12_230 (by decide) g1 rfl rfl (Nat.le_of_ble_eq_true rfl) rfl ?_
                    refine ex_goto (q := 483) dX12_doLine_450 (by decide) ?_
                    obtain ⟨rfl, rfl⟩ := zr hF
                    exact ex_ret none rfl ⟨dX12_doLine_483, rfl⟩ ⟨rfl, rfl⟩
                · have hF := im c48 hF
                  by_cases c53 : gt h 63 (gt h 12 l0 18) (wI ((wI (40 * l1)) + l2)) = 12
                  · have hF := ip c53 hF
                    refine ex_tsw 12 (tgt := 467) dX12_doLine_57 c53 (by decide) (by decide) rfl (by decide) ?_
                    refine ex_aload_n (q := 468) dX12_doLine_467 rfl rfl ?_
                    refine ex_iload_n (q := 469) dX12_doLine_468 rfl rfl ?_
                    obtain ⟨r54, h54, e54, hF⟩ := zb_some hF
                    refine ex_callV (d' := 1) (q := 472) (as := [vi l2]) (st1 := []) (r := none) (h2 := h54) dX12_doLine_469 rfl (run_X12_beginScope e54) mc_X12_beginScope mv_X12_beginScope ml_X12_233 (by decide) g1 rfl rfl (Nat.le_of_ble_eq_true rfl) rfl ?_
                    refine ex_goto (q := 483) dX12_doLine_472 (by decide) ?_
                    obtain ⟨rfl, rfl⟩ := zr hF
                    exact ex_ret none rfl ⟨dX12_doLine_483, rfl⟩ ⟨rfl, rfl⟩
                  · have hF := im c53 hF
                    refine ex_tswD (tgt := 475) dX12_doLine_57 (by omega) (by decide) ?_
                    refine ex_aload_n (q := 476) dX12_doLine_475 rfl rfl ?_
                    refine ex_bipush (q := 478) dX12_doLine_476 rfl (by decide) ⟨by decide, by decide⟩ ?_
                    refine ex_iload_n (q := 479) dX12_doLine_478 rfl rfl ?_
                    refine ex_iconst (q := 480) dX12_doLine_479 rfl ⟨by decide, by decide⟩ ?_
                    obtain ⟨r55, h55, e55, hF⟩ := zb_some hF
                    refine ex_callV (d' := 0) (q := 483) (as := [vi 13, vi l2, vi 0]) (st1 := []) (r := none) (h2 := h55) dX12_doLine_480 rfl (run_X12_begin e55) mc_X12_begin mv_X12_begin ml_X12_226 (by decide) g1 rfl rfl (Nat.le_of_ble_eq_true rfl) rfl ?_
                    obtain ⟨rfl, rfl⟩ := zr hF
                    exact ex_ret none rfl ⟨dX12_doLine_483, rfl⟩ ⟨rfl, rfl⟩
def F_X12_doLine (l0 l1 l2 : Int) (h : zH) : zO := F_X12_doLine_0 l0 l1 l2 h
theorem run_X12_doLine {l0 l1 l2 : Int} {h : zH} {r : Int} {h' : zH} (hF : F_X12_doLine l0 l1 l2 h = some (r, h')) : Run 6 yX12_doLine cX12_doLine 9 none [vr 12 l0, vi l1, vi l2] h none h' := run_of (M := M_X12_doLine) (by decide) rfl (fun z => by cases z) (Nat.le_of_ble_eq_true rfl) (x_X12_doLine_0 hF)
abbrev M_X12_goOn : zM := (RX12, (cX12_goOn, (4, (none, false))))
def F_X12_goOn_74 (l0 : Int) (h : zH) : zO := if 0 ≤ l0 then (zb (F_X12_leaveTry l0 h) (fun r1 h1 => some (0, h1))) else none
set_option maxHeartbeats 1000000 in
theorem x_X12_goOn_74 {l0 : Int} {h : zH} {r : Int} {h' : zH} (hF : F_X12_goOn_74 l0 h = some (r, h')) : Ex 7 M_X12_goOn 74 [some (vr 12 l0), none, none, none] [] h (fun r1 h1 => r1 = none ∧ h1 = h') := by
  unfold F_X12_goOn_74 at hF
  refine ex_aload_n (q := 75) dX12_goOn_74 rfl rfl ?_
  obtain ⟨g2, hF⟩ := zg hF
  obtain ⟨r1, h1, e1, hF⟩ := zb_some hF
  refine ex_callV (d' := 5) (q := 78) (as := []) (st1 := []) (r := none) (h2 := h1) dX12_goOn_75 rfl (run_X12_leaveTry e1) mc_X12_leaveTry mv_X12_leaveTry ml_X12_306 (by decide) g2 rfl rfl (Nat.le_of_ble_eq_true rfl) rfl ?_
  refine ex_goto (q := 104) dX12_goOn_78 (by decide) ?_
  obtain ⟨rfl, rfl⟩ := zr hF
  exact ex_ret none rfl ⟨dX12_goOn_104, rfl⟩ ⟨rfl, rfl⟩
def F_X12_goOn_0 (l0 : Int) (h : zH) : zO := if 0 ≤ l0 then (if 0 ≤ gt h 12 l0 28 then (if 0 ≤ gt h 12 l0 67 ∧ gt h 12 l0 67 < 150 then (if 0 ≤ gt h 12 l0 30 then (if 0 ≤ gt h 12 l0 17 then (if 0 ≤ gt h 70 (gt h 12 l0 28) (gt h 12 l0 67) ∧ gt h 70 (gt h 12 l0 28) (gt h 12 l0 67) < 12 then (if gt h 72 (gt h 12 l0 30) (gt h 12 l0 67) ≠ gt h 62 (gt h 12 l0 17) (gt h 70 (gt h 12 l0 28) (gt h 12 l0 67)) then (if 0 ≤ gt h 12 l0 18 then (if 0 ≤ wI ((wI (40 * (gt h 70 (gt h 12 l0 28) (gt h 12 l0 67)))) + (gt h 72 (gt h 12 l0 30) (gt h 12 l0 67))) ∧ wI ((wI (40 * (gt h 70 (gt h 12 l0 28) (gt h 12 l0 67)))) + (gt h 72 (gt h 12 l0 30) (gt h 12 l0 67))) < 480 then (if gt h 63 (gt h 12 l0 18) (wI ((wI (40 * (gt h 70 (gt h 12 l0 28) (gt h 12 l0 67)))) + (gt h 72 (gt h 12 l0 30) (gt h 12 l0 67)))) ≠ 16 then (if gt h 63 (gt h 12 l0 18) (wI ((wI (40 * (gt h 70 (gt h 12 l0 28) (gt h 12 l0 67)))) + (gt h 72 (gt h 12 l0 30) (gt h 12 l0 67)))) = 14 then (F_X12_goOn_74 l0 h) else (if gt h 63 (gt h 12 l0 18) (wI ((wI (40 * (gt h 70 (gt h 12 l0 28) (gt h 12 l0 67)))) + (gt h 72 (gt h 12 l0 30) (gt h 12 l0 67)))) ≠ 15 then (zb (F_X12_step l0 h) (fun r13 h13 => if r13 = 0 then (some (0, h13)) else (if 0 ≤ gt h13 12 l0 31 then (if 0 ≤ gt h13 12 l0 67 ∧ gt h13 12 l0 67 < 150 then (zb (F_X12_doLine l0 (gt h 70 (gt h 12 l0 28) (gt h 12 l0 67)) (gt h 72 (gt h 12 l0 30) (gt h 12 l0 67)) (pt h13 73 (gt h13 12 l0 31) (gt h13 12 l0 67) (gt h 72 (gt h 12 l0 30) (gt h 12 l0 67)))) (fun r17 h17 => some (0, h17))) else none) else none))) else (F_X12_goOn_74 l0 h))) else (zb (F_X12_endBlock l0 (gt h 72 (gt h 12 l0 30) (gt h 12 l0 67)) h) (fun r18 h18 => some (0, h18)))) else none) else none) else (some (0, (pt h 12 l0 52 1)))) else none) else none) else none) else none) else none) else none
set_option maxHeartbeats 1000000 in
theorem x_X12_goOn_0 {l0 : Int} {h : zH} {r : Int} {h' : zH} (hF : F_X12_goOn_0 l0 h = some (r, h')) : Ex 7 M_X12_goOn 0 [some (vr 12 l0), none, none, none] [] h (fun r1 h1 => r1 = none ∧ h1 = h') := by
  unfold F_X12_goOn_0 at hF
  refine ex_aload_n (q := 1) dX12_goOn_0 rfl rfl ?_
  obtain ⟨g1, hF⟩ := zg hF
  refine ex_get (q := 4) (v := vr 70 (gt h 12 l0 28)) 28 dX12_goOn_1 rfl fl_X12_72 g1 rfl rfl ?_
  refine ex_aload_n (q := 5) dX12_goOn_4 rfl rfl ?_
  refine ex_get (q := 8) (v := vi (gt h 12 l0 67)) 67 dX12_goOn_5 rfl fl_X12_220 g1 rfl rfl ?_
  obtain ⟨g2, hF⟩ := zg hF
  obtain ⟨g3, hF⟩ := zg hF
  refine ex_iald (q := 9) dX12_goOn_8 rfl kd_70 g2 g3.1 g3.2 ?_
  refine ex_istore_n (q := 10) (lo' := [some (vr 12 l0), some (vi (gt h 70 (gt h 12 l0 28) (gt h 12 l0 67))), none, none]) dX12_goOn_9 rfl (by decide) rfl rfl ?_
  refine ex_aload_n (q := 11) dX12_goOn_10 rfl rfl ?_
  refine ex_get (q := 14) (v := vr 72 (gt h 12 l0 30)) 30 dX12_goOn_11 rfl fl_X12_78 g1 rfl rfl ?_
  refine ex_aload_n (q := 15) dX12_goOn_14 rfl rfl ?_
  refine ex_get (q := 18) (v := vi (gt h 12 l0 67)) 67 dX12_goOn_15 rfl fl_X12_220 g1 rfl rfl ?_
  obtain ⟨g4, hF⟩ := zg hF
  refine ex_iald (q := 19) dX12_goOn_18 rfl kd_72 g4 g3.1 g3.2 ?_
  refine ex_istore_n (q := 20) (lo' := [some (vr 12 l0), some (vi (gt h 70 (gt h 12 l0 28) (gt h 12 l0 67))), some (vi (gt h 72 (gt h 12 l0 30) (gt h 12 l0 67))), none]) dX12_goOn_19 rfl (by decide) rfl rfl ?_
  refine ex_iload_n (q := 21) dX12_goOn_20 rfl rfl ?_
  refine ex_aload_n (q := 22) dX12_goOn_21 rfl rfl ?_
  refine ex_get (q := 25) (v := vr 62 (gt h 12 l0 17)) 17 dX12_goOn_22 rfl fl_X12_47 g1 rfl rfl ?_
  refine ex_iload_n (q := 26) dX12_goOn_25 rfl rfl ?_
  obtain ⟨g5, hF⟩ := zg hF
  obtain ⟨g6, hF⟩ := zg hF
  refine ex_iald (q := 27) dX12_goOn_26 rfl kd_62 g5 g6.1 g6.2 ?_
  refine ex_icmp_ne (q := 30) (tgt := 36) dX12_goOn_27 rfl (by decide) (fun c7 => ?_) (fun c7 => ?_)
  · have hF := ip c7 hF
    refine ex_aload_n (q := 37) dX12_goOn_36 rfl rfl ?_
    refine ex_get (q := 40) (v := vr 63 (gt h 12 l0 18)) 18 dX12_goOn_37 rfl fl_X12_50 g1 rfl rfl ?_
    refine ex_bipush (q := 42) dX12_goOn_40 rfl (by decide) ⟨by decide, by decide⟩ ?_
    refine ex_iload_n (q := 43) dX12_goOn_42 rfl rfl ?_
    refine ex_imul (q := 44) dX12_goOn_43 rfl ?_
    refine ex_iload_n (q := 45) dX12_goOn_44 rfl rfl ?_
    refine ex_iadd (q := 46) dX12_goOn_45 rfl ?_
    obtain ⟨g8, hF⟩ := zg hF
    obtain ⟨g9, hF⟩ := zg hF
    refine ex_iald (q := 47) dX12_goOn_46 rfl kd_63 g8 g9.1 g9.2 ?_
    refine ex_istore_n (q := 48) (lo' := [some (vr 12 l0), some (vi (gt h 70 (gt h 12 l0 28) (gt h 12 l0 67))), some (vi (gt h 72 (gt h 12 l0 30) (gt h 12 l0 67))), some (vi (gt h 63 (gt h 12 l0 18) (wI ((wI (40 * (gt h 70 (gt h 12 l0 28) (gt h 12 l0 67)))) + (gt h 72 (gt h 12 l0 30) (gt h 12 l0 67))))))]) dX12_goOn_47 rfl (by decide) rfl rfl ?_
    refine ex_iload_n (q := 49) dX12_goOn_48 rfl rfl ?_
    refine ex_bipush (q := 51) dX12_goOn_49 rfl (by decide) ⟨by decide, by decide⟩ ?_
    refine ex_icmp_ne (q := 54) (tgt := 62) dX12_goOn_51 rfl (by decide) (fun c10 => ?_) (fun c10 => ?_)
    · have hF := ip c10 hF
      refine ex_iload_n (q := 63) dX12_goOn_62 rfl rfl ?_
      refine ex_bipush (q := 65) dX12_goOn_63 rfl (by decide) ⟨by decide, by decide⟩ ?_
      refine ex_icmp_eq (q := 68) (tgt := 74) dX12_goOn_65 rfl (by decide) (fun c11 => ?_) (fun c11 => ?_)
      · have hF := ip c11 hF
        exact ex_forget (lo' := [some (vr 12 l0), none, none, none]) ⟨Or.inr rfl, Or.inl rfl, Or.inl rfl, Or.inl rfl, trivial⟩ (x_X12_goOn_74 hF)
      · have hF := im c11 hF
        refine ex_iload_n (q := 69) dX12_goOn_68 rfl rfl ?_
        refine ex_bipush (q := 71) dX12_goOn_69 rfl (by decide) ⟨by decide, by decide⟩ ?_
        refine ex_icmp_ne (q := 74) (tgt := 81) dX12_goOn_71 rfl (by decide) (fun c12 => ?_) (fun c12 => ?_)
        · have hF := ip c12 hF
          refine ex_aload_n (q := 82) dX12_goOn_81 rfl rfl ?_
          obtain ⟨r13, h13, e13, hF⟩ := zb_some hF
          refine ex_callV (d' := 4) (q := 85) (as := []) (st1 := [vi r13]) (r := (some (vi r13))) (h2 := h13) dX12_goOn_82 rfl (run_X12_step e13) mc_X12_step mv_X12_step ml_X12_293 (by decide) g1 rfl rfl (Nat.le_of_ble_eq_true rfl) rfl ?_
          refine ex_if_eq (q := 88) (tgt := 104) dX12_goOn_85 rfl (by decide) (fun c14 => ?_) (fun c14 => ?_)
          · have hF := ip c14 hF
            obtain ⟨rfl, rfl⟩ := zr hF
            exact ex_ret none rfl ⟨dX12_goOn_104, rfl⟩ ⟨rfl, rfl⟩
          · have hF := im c14 hF
            refine ex_aload_n (q := 89) dX12_goOn_88 rfl rfl ?_
            refine ex_get (q := 92) (v := vr 73 (gt h13 12 l0 31)) 31 dX12_goOn_89 rfl fl_X12_81 g1 rfl rfl ?_
            refine ex_aload_n (q := 93) dX12_goOn_92 rfl rfl ?_
            refine ex_get (q := 96) (v := vi (gt h13 12 l0 67)) 67 dX12_goOn_93 rfl fl_X12_220 g1 rfl rfl ?_
            refine ex_iload_n (q := 97) dX12_goOn_96 rfl rfl ?_
            obtain ⟨g15, hF⟩ := zg hF
            obtain ⟨g16, hF⟩ := zg hF
            refine ex_iast (q := 98) dX12_goOn_97 rfl kd_73 g15 g16.1 g16.2 ?_
            refine ex_aload_n (q := 99) dX12_goOn_98 rfl rfl ?_
            refine ex_iload_n (q := 100) dX12_goOn_99 rfl rfl ?_
            refine ex_iload_n (q := 101) dX12_goOn_100 rfl rfl ?_
            obtain ⟨r17, h17, e17, hF⟩ := zb_some hF
            refine ex_callV (d' := 6) (q := 104) (as := [vi (gt h 70 (gt h 12 l0 28) (gt h 12 l0 67)), vi (gt h 72 (gt h 12 l0 30) (gt h 12 l0 67))]) (st1 := []) (r := none) (h2 := h17) dX12_goOn_101 rfl (run_X12_doLine e17) mc_X12_doLine mv_X12_doLine ml_X12_353 (by decide) g1 rfl rfl (Nat.le_of_ble_eq_true rfl) rfl ?_
            obtain ⟨rfl, rfl⟩ := zr hF
            exact ex_ret none rfl ⟨dX12_goOn_104, rfl⟩ ⟨rfl, rfl⟩
        · have hF := im c12 hF
          exact ex_forget (lo' := [some (vr 12 l0), none, none, none]) ⟨Or.inr rfl, Or.inl rfl, Or.inl rfl, Or.inl rfl, trivial⟩ (x_X12_goOn_74 hF)
    · have hF := im c10 hF
      refine ex_aload_n (q := 55) dX12_goOn_54 rfl rfl ?_
      refine ex_iload_n (q := 56) dX12_goOn_55 rfl rfl ?_
      obtain ⟨r18, h18, e18, hF⟩ := zb_some hF
      refine ex_callV (d' := 5) (q := 59) (as := [vi (gt h 72 (gt h 12 l0 30) (gt h 12 l0 67))]) (st1 := []) (r := none) (h2 := h18) dX12_goOn_56 rfl (run_X12_endBlock e18) mc_X12_endBlock mv_X12_endBlock ml_X12_350 (by decide) g1 rfl rfl (Nat.le_of_ble_eq_true rfl) rfl ?_
      refine ex_goto (q := 104) dX12_goOn_59 (by decide) ?_
      obtain ⟨rfl, rfl⟩ := zr hF
      exact ex_ret none rfl ⟨dX12_goOn_104, rfl⟩ ⟨rfl, rfl⟩
  · have hF := im c7 hF
    refine ex_aload_n (q := 31) dX12_goOn_30 rfl rfl ?_
    refine ex_iconst (q := 32) dX12_goOn_31 rfl ⟨by decide, by decide⟩ ?_
    refine ex_put (q := 35) 52 dX12_goOn_32 rfl fl_X12_255 (by decide) g1 rfl rfl (fun z => by cases z) ?_
    obtain ⟨rfl, rfl⟩ := zr hF
    exact ex_ret none rfl ⟨dX12_goOn_35, rfl⟩ ⟨rfl, rfl⟩
def F_X12_goOn (l0 : Int) (h : zH) : zO := F_X12_goOn_0 l0 h
theorem run_X12_goOn {l0 : Int} {h : zH} {r : Int} {h' : zH} (hF : F_X12_goOn l0 h = some (r, h')) : Run 7 yX12_goOn cX12_goOn 4 none [vr 12 l0] h none h' := run_of (M := M_X12_goOn) (by decide) rfl (fun z => by cases z) (Nat.le_of_ble_eq_true rfl) (x_X12_goOn_0 hF)
abbrev M_X12_above : zM := (RX12, (cX12_above, (1, ((some .int), false))))
def F_X12_above_0 (l0 : Int) (h : zH) : zO := if l0 = 0 then (some ((-1), h)) else (if l0 = 1 ∨ l0 = 5 ∨ l0 = 7 ∨ l0 = 8 ∨ l0 = 9 then (some (0, h)) else (if l0 = 2 ∨ l0 = 3 ∨ l0 = 4 then (some (1, h)) else (if l0 = 6 ∨ l0 = 11 then (some (5, h)) else (if l0 = 10 then (some (9, h)) else (some (0, h))))))
set_option maxHeartbeats 1000000 in
theorem x_X12_above_0 {l0 : Int} {h : zH} {r : Int} {h' : zH} (hF : F_X12_above_0 l0 h = some (r, h')) : Ex 0 M_X12_above 0 [some (vi l0)] [] h (fun r1 h1 => r1 = some (vi r) ∧ h1 = h') := by
  unfold F_X12_above_0 at hF
  refine ex_iload_n (q := 1) dX12_above_0 rfl rfl ?_
  by_cases c1 : l0 = 0
  · have hF := ip c1 hF
    refine ex_tsw 0 (tgt := 71) dX12_above_1 c1 (by decide) (by decide) rfl (by decide) ?_
    refine ex_iconst (q := 72) dX12_above_71 rfl ⟨by decide, by decide⟩ ?_
    obtain ⟨rfl, rfl⟩ := zr hF
    exact ex_ret (some (vi (-1))) rfl ⟨dX12_above_72, Or.inl rfl⟩ ⟨rfl, rfl⟩
  · have hF := im c1 hF
    by_cases c2 : l0 = 1 ∨ l0 = 5 ∨ l0 = 7 ∨ l0 = 8 ∨ l0 = 9
    · have hF := ip c2 hF
      have K : Ex 0 M_X12_above 73 [some (vi l0)] [] h (fun r1 h1 => r1 = some (vi r) ∧ h1 = h') := by
        refine ex_iconst (q := 74) dX12_above_73 rfl ⟨by decide, by decide⟩ ?_
        obtain ⟨rfl, rfl⟩ := zr hF
        exact ex_ret (some (vi 0)) rfl ⟨dX12_above_74, Or.inl rfl⟩ ⟨rfl, rfl⟩
      rcases c2 with c2 | c2 | c2 | c2 | c2
      · exact ex_tsw 1 (tgt := 73) dX12_above_1 c2 (by decide) (by decide) rfl (by decide) K
      · exact ex_tsw 5 (tgt := 73) dX12_above_1 c2 (by decide) (by decide) rfl (by decide) K
      · exact ex_tsw 7 (tgt := 73) dX12_above_1 c2 (by decide) (by decide) rfl (by decide) K
      · exact ex_tsw 8 (tgt := 73) dX12_above_1 c2 (by decide) (by decide) rfl (by decide) K
      · exact ex_tsw 9 (tgt := 73) dX12_above_1 c2 (by decide) (by decide) rfl (by decide) K
    · have hF := im c2 hF
      by_cases c3 : l0 = 2 ∨ l0 = 3 ∨ l0 = 4
      · have hF := ip c3 hF
        have K : Ex 0 M_X12_above 64 [some (vi l0)] [] h (fun r1 h1 => r1 = some (vi r) ∧ h1 = h') := by
          refine ex_iconst (q := 65) dX12_above_64 rfl ⟨by decide, by decide⟩ ?_
          obtain ⟨rfl, rfl⟩ := zr hF
          exact ex_ret (some (vi 1)) rfl ⟨dX12_above_65, Or.inl rfl⟩ ⟨rfl, rfl⟩
        rcases c3 with c3 | c3 | c3
        · exact ex_tsw 2 (tgt := 64) dX12_above_1 c3 (by decide) (by decide) rfl (by decide) K
        · exact ex_tsw 3 (tgt := 64) dX12_above_1 c3 (by decide) (by decide) rfl (by decide) K
        · exact ex_tsw 4 (tgt := 64) dX12_above_1 c3 (by decide) (by decide) rfl (by decide) K
      · have hF := im c3 hF
        by_cases c4 : l0 = 6 ∨ l0 = 11
        · have hF := ip c4 hF
          have K : Ex 0 M_X12_above 66 [some (vi l0)] [] h (fun r1 h1 => r1 = some (vi r) ∧ h1 = h') := by
            refine ex_iconst (q := 67) dX12_above_66 rfl ⟨by decide, by decide⟩ ?_
            obtain ⟨rfl, rfl⟩ := zr hF
            exact ex_ret (some (vi 5)) rfl ⟨dX12_above_67, Or.inl rfl⟩ ⟨rfl, rfl⟩
          rcases c4 with c4 | c4
          · exact ex_tsw 6 (tgt := 66) dX12_above_1 c4 (by decide) (by decide) rfl (by decide) K
          · exact ex_tsw 11 (tgt := 66) dX12_above_1 c4 (by decide) (by decide) rfl (by decide) K
        · have hF := im c4 hF
          by_cases c5 : l0 = 10
          · have hF := ip c5 hF
            refine ex_tsw 10 (tgt := 68) dX12_above_1 c5 (by decide) (by decide) rfl (by decide) ?_
            refine ex_bipush (q := 70) dX12_above_68 rfl (by decide) ⟨by decide, by decide⟩ ?_
            obtain ⟨rfl, rfl⟩ := zr hF
            exact ex_ret (some (vi 9)) rfl ⟨dX12_above_70, Or.inl rfl⟩ ⟨rfl, rfl⟩
          · have hF := im c5 hF
            refine ex_tswD (tgt := 73) dX12_above_1 (by omega) (by decide) ?_
            refine ex_iconst (q := 74) dX12_above_73 rfl ⟨by decide, by decide⟩ ?_
            obtain ⟨rfl, rfl⟩ := zr hF
            exact ex_ret (some (vi 0)) rfl ⟨dX12_above_74, Or.inl rfl⟩ ⟨rfl, rfl⟩
def F_X12_above (l0 : Int) (h : zH) : zO := F_X12_above_0 l0 h
theorem run_X12_above {l0 : Int} {h : zH} {r : Int} {h' : zH} (hF : F_X12_above l0 h = some (r, h')) : Run 0 yX12_above cX12_above 1 (some .int) [vi l0] h (some (vi r)) h' := run_of (M := M_X12_above) (by decide) rfl (fun z => by cases z) (Nat.le_of_ble_eq_true rfl) (x_X12_above_0 hF)
abbrev M_X12_isUnder : zM := (RX12, (cX12_isUnder, (3, ((some .boolean), false))))
def F_X12_isUnder_19 (l1 l2 : Int) (h : zH) : zO := if l2 ≠ l1 then (some (0, h)) else (some (1, h))
set_option maxHeartbeats 1000000 in
theorem x_X12_isUnder_19 {l1 l2 : Int} {h : zH} {r : Int} {h' : zH} (hF : F_X12_isUnder_19 l1 l2 h = some (r, h')) : Ex 1 M_X12_isUnder 19 [none, some (vi l1), some (vi l2)] [] h (fun r1 h1 => r1 = some (vi r) ∧ h1 = h') := by
  unfold F_X12_isUnder_19 at hF
  refine ex_iload_n (q := 20) dX12_isUnder_19 rfl rfl ?_
  refine ex_iload_n (q := 21) dX12_isUnder_20 rfl rfl ?_
  refine ex_icmp_ne (q := 24) (tgt := 28) dX12_isUnder_21 rfl (by decide) (fun c1 => ?_) (fun c1 => ?_)
  · have hF := ip c1 hF
    refine ex_iconst (q := 29) dX12_isUnder_28 rfl ⟨by decide, by decide⟩ ?_
    obtain ⟨rfl, rfl⟩ := zr hF
    exact ex_ret (some (vi 0)) rfl ⟨dX12_isUnder_29, Or.inr ⟨rfl, (by decide)⟩⟩ ⟨rfl, rfl⟩
  · have hF := im c1 hF
    refine ex_iconst (q := 25) dX12_isUnder_24 rfl ⟨by decide, by decide⟩ ?_
    refine ex_goto (q := 29) dX12_isUnder_25 (by decide) ?_
    obtain ⟨rfl, rfl⟩ := zr hF
    exact ex_ret (some (vi 1)) rfl ⟨dX12_isUnder_29, Or.inr ⟨rfl, (by decide)⟩⟩ ⟨rfl, rfl⟩
def F_X12_isUnder_2b (ag2 : Int → Int → zH → zO) (l1 l2 : Int) (h : zH) : zO := if l2 < 0 then (F_X12_isUnder_19 l1 l2 h) else (if l2 = l1 then (F_X12_isUnder_19 l1 l2 h) else (zb (F_X12_above l2 h) (fun r3 h3 => ag2 l1 r3 h3)))
set_option maxHeartbeats 1000000 in
theorem x_X12_isUnder_2b {ag2 : Int → Int → zH → zO} (hag2 : ∀ (l1 l2 : Int) (h : zH) (r : Int) (h' : zH), ag2 l1 l2 h = some (r, h') → Ex 1 M_X12_isUnder 2 [none, some (vi l1), some (vi l2)] [] h (fun r1 h1 => r1 = some (vi r) ∧ h1 = h')) {l1 l2 : Int} {h : zH} {r : Int} {h' : zH} (hF : F_X12_isUnder_2b ag2 l1 l2 h = some (r, h')) : Ex 1 M_X12_isUnder 2 [none, some (vi l1), some (vi l2)] [] h (fun r1 h1 => r1 = some (vi r) ∧ h1 = h') := by
  unfold F_X12_isUnder_2b at hF
  refine ex_iload_n (q := 3) dX12_isUnder_2 rfl rfl ?_
  refine ex_if_lt (q := 6) (tgt := 19) dX12_isUnder_3 rfl (by decide) (fun c1 => ?_) (fun c1 => ?_)
  · have hF := ip c1 hF
    exact ex_forget (lo' := [none, some (vi l1), some (vi l2)]) ⟨Or.inl rfl, Or.inr rfl, Or.inr rfl, trivial⟩ (x_X12_isUnder_19 hF)
  · have hF := im c1 hF
    refine ex_iload_n (q := 7) dX12_isUnder_6 rfl rfl ?_
    refine ex_iload_n (q := 8) dX12_isUnder_7 rfl rfl ?_
    refine ex_icmp_eq (q := 11) (tgt := 19) dX12_isUnder_8 rfl (by decide) (fun c2 => ?_) (fun c2 => ?_)
    · have hF := ip c2 hF
      exact ex_forget (lo' := [none, some (vi l1), some (vi l2)]) ⟨Or.inl rfl, Or.inr rfl, Or.inr rfl, trivial⟩ (x_X12_isUnder_19 hF)
    · have hF := im c2 hF
      refine ex_iload_n (q := 12) dX12_isUnder_11 rfl rfl ?_
      obtain ⟨r3, h3, e3, hF⟩ := zb_some hF
      refine ex_callS (d' := 0) (q := 15) (as := [vi l2]) (st1 := [vi r3]) (r := (some (vi r3))) (h2 := h3) dX12_isUnder_12 rfl (run_X12_above e3) mc_X12_above ms_X12_above ml_X12_284 (by decide) rfl rfl (Nat.le_of_ble_eq_true rfl) rfl ?_
      refine ex_istore_n (q := 16) (lo' := [none, some (vi l1), some (vi r3)]) dX12_isUnder_15 rfl (by decide) rfl rfl ?_
      refine ex_goto (q := 2) dX12_isUnder_16 (by decide) ?_
      exact ex_forget (lo' := [none, some (vi l1), some (vi r3)]) ⟨Or.inl rfl, Or.inr rfl, Or.inr rfl, trivial⟩ (hag2 _ _ _ _ _ hF)
def F_X12_isUnder_2 : Nat → Int → Int → zH → zO
  | 0, _, _, _ => none
  | n + 1, l1, l2, h => F_X12_isUnder_2b (F_X12_isUnder_2 n) l1 l2 h
theorem x_X12_isUnder_2 : ∀ (n : Nat) (l1 l2 : Int) (h : zH) (r : Int) (h' : zH), F_X12_isUnder_2 n l1 l2 h = some (r, h') → Ex 1 M_X12_isUnder 2 [none, some (vi l1), some (vi l2)] [] h (fun r1 h1 => r1 = some (vi r) ∧ h1 = h')
  | 0, _, _, _, _, _, hF => by cases hF
  | n + 1, _, _, _, _, _, hF => x_X12_isUnder_2b (x_X12_isUnder_2 n) hF
def F_X12_isUnder_0 (l0 l1 : Int) (h : zH) : zO := F_X12_isUnder_2 zF l1 l0 h
set_option maxHeartbeats 1000000 in
theorem x_X12_isUnder_0 {l0 l1 : Int} {h : zH} {r : Int} {h' : zH} (hF : F_X12_isUnder_0 l0 l1 h = some (r, h')) : Ex 1 M_X12_isUnder 0 [some (vi l0), some (vi l1), none] [] h (fun r1 h1 => r1 = some (vi r) ∧ h1 = h') := by
  unfold F_X12_isUnder_0 at hF
  refine ex_iload_n (q := 1) dX12_isUnder_0 rfl rfl ?_
  refine ex_istore_n (q := 2) (lo' := [some (vi l0), some (vi l1), some (vi l0)]) dX12_isUnder_1 rfl (by decide) rfl rfl ?_
  exact ex_forget (lo' := [none, some (vi l1), some (vi l0)]) ⟨Or.inl rfl, Or.inr rfl, Or.inr rfl, trivial⟩ (x_X12_isUnder_2 _ _ _ _ _ _ hF)
def F_X12_isUnder (l0 l1 : Int) (h : zH) : zO := F_X12_isUnder_0 l0 l1 h
theorem run_X12_isUnder {l0 l1 : Int} {h : zH} {r : Int} {h' : zH} (hF : F_X12_isUnder l0 l1 h = some (r, h')) : Run 1 yX12_isUnder cX12_isUnder 3 (some .boolean) [vi l0, vi l1] h (some (vi r)) h' := run_of (M := M_X12_isUnder) (by decide) rfl (fun z => by cases z) (Nat.le_of_ble_eq_true rfl) (x_X12_isUnder_0 hF)
abbrev M_X12_guardOf : zM := (RX12, (cX12_guardOf, (4, ((some .int), false))))
def F_X12_guardOf_59 (l0 l1 l3 : Int) (h : zH) : zO := if 0 ≤ l0 then (if 0 ≤ gt h 12 l0 18 then (if 0 ≤ wI ((wI (40 * l1)) + l3) ∧ wI ((wI (40 * l1)) + l3) < 480 then (if gt h 63 (gt h 12 l0 18) (wI ((wI (40 * l1)) + l3)) ≠ 14 then (some ((-1), h)) else (some (l3, h))) else none) else none) else none
set_option maxHeartbeats 1000000 in
theorem x_X12_guardOf_59 {l0 l1 l3 : Int} {h : zH} {r : Int} {h' : zH} (hF : F_X12_guardOf_59 l0 l1 l3 h = some (r, h')) : Ex 2 M_X12_guardOf 59 [some (vr 12 l0), some (vi l1), none, some (vi l3)] [] h (fun r1 h1 => r1 = some (vi r) ∧ h1 = h') := by
  unfold F_X12_guardOf_59 at hF
  refine ex_aload_n (q := 60) dX12_guardOf_59 rfl rfl ?_
  obtain ⟨g1, hF⟩ := zg hF
  refine ex_get (q := 63) (v := vr 63 (gt h 12 l0 18)) 18 dX12_guardOf_60 rfl fl_X12_50 g1 rfl rfl ?_
  refine ex_bipush (q := 65) dX12_guardOf_63 rfl (by decide) ⟨by decide, by decide⟩ ?_
  refine ex_iload_n (q := 66) dX12_guardOf_65 rfl rfl ?_
  refine ex_imul (q := 67) dX12_guardOf_66 rfl ?_
  refine ex_iload_n (q := 68) dX12_guardOf_67 rfl rfl ?_
  refine ex_iadd (q := 69) dX12_guardOf_68 rfl ?_
  obtain ⟨g2, hF⟩ := zg hF
  obtain ⟨g3, hF⟩ := zg hF
  refine ex_iald (q := 70) dX12_guardOf_69 rfl kd_63 g2 g3.1 g3.2 ?_
  refine ex_bipush (q := 72) dX12_guardOf_70 rfl (by decide) ⟨by decide, by decide⟩ ?_
  refine ex_icmp_ne (q := 75) (tgt := 79) dX12_guardOf_72 rfl (by decide) (fun c4 => ?_) (fun c4 => ?_)
  · have hF := ip c4 hF
    refine ex_iconst (q := 80) dX12_guardOf_79 rfl ⟨by decide, by decide⟩ ?_
    obtain ⟨rfl, rfl⟩ := zr hF
    exact ex_ret (some (vi (-1))) rfl ⟨dX12_guardOf_80, Or.inl rfl⟩ ⟨rfl, rfl⟩
  · have hF := im c4 hF
    refine ex_iload_n (q := 76) dX12_guardOf_75 rfl rfl ?_
    refine ex_goto (q := 80) dX12_guardOf_76 (by decide) ?_
    obtain ⟨rfl, rfl⟩ := zr hF
    exact ex_ret (some (vi l3)) rfl ⟨dX12_guardOf_80, Or.inl rfl⟩ ⟨rfl, rfl⟩
def F_X12_guardOf_7b (ag7 : Int → Int → Int → zH → zO) (l0 l1 l3 : Int) (h : zH) : zO := if 0 ≤ l0 then (if 0 ≤ gt h 12 l0 18 then (if 0 ≤ wI ((wI (40 * l1)) + l3) ∧ wI ((wI (40 * l1)) + l3) < 480 then (if gt h 63 (gt h 12 l0 18) (wI ((wI (40 * l1)) + l3)) ≠ 14 then (F_X12_guardOf_59 l0 l1 l3 h) else (if 0 ≤ gt h 12 l0 46 then (if 0 ≤ gt h 12 l0 53 ∧ gt h 12 l0 53 < 16 then (if 0 ≤ gt h 12 l0 19 then (zb (F_X12_isUnder (gt h 83 (gt h 12 l0 46) (gt h 12 l0 53)) (gt h 64 (gt h 12 l0 19) (wI ((wI (40 * l1)) + l3))) h) (fun r8 h8 => if r8 ≠ 0 then (F_X12_guardOf_59 l0 l1 l3 h8) else (zb (F_X12_behind l0 l1 l3 h8) (fun r10 h10 => ag7 l0 l1 r10 h10)))) else none) else none) else none)) else none) else none) else none
set_option maxHeartbeats 1000000 in
theorem x_X12_guardOf_7b {ag7 : Int → Int → Int → zH → zO} (hag7 : ∀ (l0 l1 l3 : Int) (h : zH) (r : Int) (h' : zH), ag7 l0 l1 l3 h = some (r, h') → Ex 2 M_X12_guardOf 7 [some (vr 12 l0), some (vi l1), none, some (vi l3)] [] h (fun r1 h1 => r1 = some (vi r) ∧ h1 = h')) {l0 l1 l3 : Int} {h : zH} {r : Int} {h' : zH} (hF : F_X12_guardOf_7b ag7 l0 l1 l3 h = some (r, h')) : Ex 2 M_X12_guardOf 7 [some (vr 12 l0), some (vi l1), none, some (vi l3)] [] h (fun r1 h1 => r1 = some (vi r) ∧ h1 = h') := by
  unfold F_X12_guardOf_7b at hF
  refine ex_aload_n (q := 8) dX12_guardOf_7 rfl rfl ?_
  obtain ⟨g1, hF⟩ := zg hF
  refine ex_get (q := 11) (v := vr 63 (gt h 12 l0 18)) 18 dX12_guardOf_8 rfl fl_X12_50 g1 rfl rfl ?_
  refine ex_bipush (q := 13) dX12_guardOf_11 rfl (by decide) ⟨by decide, by decide⟩ ?_
  refine ex_iload_n (q := 14) dX12_guardOf_13 rfl rfl ?_
  refine ex_imul (q := 15) dX12_guardOf_14 rfl ?_
  refine ex_iload_n (q := 16) dX12_guardOf_15 rfl rfl ?_
  refine ex_iadd (q := 17) dX12_guardOf_16 rfl ?_
  obtain ⟨g2, hF⟩ := zg hF
  obtain ⟨g3, hF⟩ := zg hF
  refine ex_iald (q := 18) dX12_guardOf_17 rfl kd_63 g2 g3.1 g3.2 ?_
  refine ex_bipush (q := 20) dX12_guardOf_18 rfl (by decide) ⟨by decide, by decide⟩ ?_
  refine ex_icmp_ne (q := 23) (tgt := 59) dX12_guardOf_20 rfl (by decide) (fun c4 => ?_) (fun c4 => ?_)
  · have hF := ip c4 hF
    exact ex_forget (lo' := [some (vr 12 l0), some (vi l1), none, some (vi l3)]) ⟨Or.inr rfl, Or.inr rfl, Or.inl rfl, Or.inr rfl, trivial⟩ (x_X12_guardOf_59 hF)
  · have hF := im c4 hF
    refine ex_aload_n (q := 24) dX12_guardOf_23 rfl rfl ?_
    refine ex_get (q := 27) (v := vr 83 (gt h 12 l0 46)) 46 dX12_guardOf_24 rfl fl_X12_111 g1 rfl rfl ?_
    refine ex_aload_n (q := 28) dX12_guardOf_27 rfl rfl ?_
    refine ex_get (q := 31) (v := vi (gt h 12 l0 53)) 53 dX12_guardOf_28 rfl fl_X12_252 g1 rfl rfl ?_
    obtain ⟨g5, hF⟩ := zg hF
    obtain ⟨g6, hF⟩ := zg hF
    refine ex_iald (q := 32) dX12_guardOf_31 rfl kd_83 g5 g6.1 g6.2 ?_
    refine ex_aload_n (q := 33) dX12_guardOf_32 rfl rfl ?_
    refine ex_get (q := 36) (v := vr 64 (gt h 12 l0 19)) 19 dX12_guardOf_33 rfl fl_X12_53 g1 rfl rfl ?_
    refine ex_bipush (q := 38) dX12_guardOf_36 rfl (by decide) ⟨by decide, by decide⟩ ?_
    refine ex_iload_n (q := 39) dX12_guardOf_38 rfl rfl ?_
    refine ex_imul (q := 40) dX12_guardOf_39 rfl ?_
    refine ex_iload_n (q := 41) dX12_guardOf_40 rfl rfl ?_
    refine ex_iadd (q := 42) dX12_guardOf_41 rfl ?_
    obtain ⟨g7, hF⟩ := zg hF
    refine ex_iald (q := 43) dX12_guardOf_42 rfl kd_64 g7 g3.1 g3.2 ?_
    obtain ⟨r8, h8, e8, hF⟩ := zb_some hF
    refine ex_callS (d' := 1) (q := 46) (as := [vi (gt h 83 (gt h 12 l0 46) (gt h 12 l0 53)), vi (gt h 64 (gt h 12 l0 19) (wI ((wI (40 * l1)) + l3)))]) (st1 := [vi r8]) (r := (some (vi r8))) (h2 := h8) dX12_guardOf_43 rfl (run_X12_isUnder e8) mc_X12_isUnder ms_X12_isUnder ml_X12_287 (by decide) rfl rfl (Nat.le_of_ble_eq_true rfl) rfl ?_
    refine ex_if_ne (q := 49) (tgt := 59) dX12_guardOf_46 rfl (by decide) (fun c9 => ?_) (fun c9 => ?_)
    · have hF := ip c9 hF
      exact ex_forget (lo' := [some (vr 12 l0), some (vi l1), none, some (vi l3)]) ⟨Or.inr rfl, Or.inr rfl, Or.inl rfl, Or.inr rfl, trivial⟩ (x_X12_guardOf_59 hF)
    · have hF := im c9 hF
      refine ex_aload_n (q := 50) dX12_guardOf_49 rfl rfl ?_
      refine ex_iload_n (q := 51) dX12_guardOf_50 rfl rfl ?_
      refine ex_iload_n (q := 52) dX12_guardOf_51 rfl rfl ?_
      obtain ⟨r10, h10, e10, hF⟩ := zb_some hF
      refine ex_callV (d' := 1) (q := 55) (as := [vi l1, vi l3]) (st1 := [vi r10]) (r := (some (vi r10))) (h2 := h10) dX12_guardOf_52 rfl (run_X12_behind e10) mc_X12_behind mv_X12_behind ml_X12_213 (by decide) g1 rfl rfl (Nat.le_of_ble_eq_true rfl) rfl ?_
      refine ex_istore_n (q := 56) (lo' := [some (vr 12 l0), some (vi l1), none, some (vi r10)]) dX12_guardOf_55 rfl (by decide) rfl rfl ?_
      refine ex_goto (q := 7) dX12_guardOf_56 (by decide) ?_
      exact ex_forget (lo' := [some (vr 12 l0), some (vi l1), none, some (vi r10)]) ⟨Or.inr rfl, Or.inr rfl, Or.inl rfl, Or.inr rfl, trivial⟩ (hag7 _ _ _ _ _ _ hF)
def F_X12_guardOf_7 : Nat → Int → Int → Int → zH → zO
  | 0, _, _, _, _ => none
  | n + 1, l0, l1, l3, h => F_X12_guardOf_7b (F_X12_guardOf_7 n) l0 l1 l3 h
theorem x_X12_guardOf_7 : ∀ (n : Nat) (l0 l1 l3 : Int) (h : zH) (r : Int) (h' : zH), F_X12_guardOf_7 n l0 l1 l3 h = some (r, h') → Ex 2 M_X12_guardOf 7 [some (vr 12 l0), some (vi l1), none, some (vi l3)] [] h (fun r1 h1 => r1 = some (vi r) ∧ h1 = h')
  | 0, _, _, _, _, _, _, hF => by cases hF
  | n + 1, _, _, _, _, _, _, hF => x_X12_guardOf_7b (x_X12_guardOf_7 n) hF
def F_X12_guardOf_0 (l0 l1 l2 : Int) (h : zH) : zO := if 0 ≤ l0 then (zb (F_X12_behind l0 l1 l2 h) (fun r1 h1 => F_X12_guardOf_7 zF l0 l1 r1 h1)) else none
set_option maxHeartbeats 1000000 in
theorem x_X12_guardOf_0 {l0 l1 l2 : Int} {h : zH} {r : Int} {h' : zH} (hF : F_X12_guardOf_0 l0 l1 l2 h = some (r, h')) : Ex 2 M_X12_guardOf 0 [some (vr 12 l0), some (vi l1), some (vi l2), none] [] h (fun r1 h1 => r1 = some (vi r) ∧ h1 = h') := by
  unfold F_X12_guardOf_0 at hF
  refine ex_aload_n (q := 1) dX12_guardOf_0 rfl rfl ?_
  refine ex_iload_n (q := 2) dX12_guardOf_1 rfl rfl ?_
  refine ex_iload_n (q := 3) dX12_guardOf_2 rfl rfl ?_
  obtain ⟨g2, hF⟩ := zg hF
  obtain ⟨r1, h1, e1, hF⟩ := zb_some hF
  refine ex_callV (d' := 1) (q := 6) (as := [vi l1, vi l2]) (st1 := [vi r1]) (r := (some (vi r1))) (h2 := h1) dX12_guardOf_3 rfl (run_X12_behind e1) mc_X12_behind mv_X12_behind ml_X12_213 (by decide) g2 rfl rfl (Nat.le_of_ble_eq_true rfl) rfl ?_
  refine ex_istore_n (q := 7) (lo' := [some (vr 12 l0), some (vi l1), some (vi l2), some (vi r1)]) dX12_guardOf_6 rfl (by decide) rfl rfl ?_
  exact ex_forget (lo' := [some (vr 12 l0), some (vi l1), none, some (vi r1)]) ⟨Or.inr rfl, Or.inr rfl, Or.inl rfl, Or.inr rfl, trivial⟩ (x_X12_guardOf_7 _ _ _ _ _ _ _ hF)
def F_X12_guardOf (l0 l1 l2 : Int) (h : zH) : zO := F_X12_guardOf_0 l0 l1 l2 h
theorem run_X12_guardOf {l0 l1 l2 : Int} {h : zH} {r : Int} {h' : zH} (hF : F_X12_guardOf l0 l1 l2 h = some (r, h')) : Run 2 yX12_guardOf cX12_guardOf 4 (some .int) [vr 12 l0, vi l1, vi l2] h (some (vi r)) h' := run_of (M := M_X12_guardOf) (by decide) rfl (fun z => by cases z) (Nat.le_of_ble_eq_true rfl) (x_X12_guardOf_0 hF)
abbrev M_X12_outOfTry : zM := (RX12, (cX12_outOfTry, (4, (none, false))))
def F_X12_outOfTry_212 (l0 : Int) (h : zH) : zO := if 0 ≤ l0 then (zb (F_X12_leaveTry l0 h) (fun r1 h1 => some (0, h1))) else none
set_option maxHeartbeats 1000000 in
theorem x_X12_outOfTry_212 {l0 : Int} {h : zH} {r : Int} {h' : zH} (hF : F_X12_outOfTry_212 l0 h = some (r, h')) : Ex 6 M_X12_outOfTry 212 [some (vr 12 l0), none, none, none] [] h (fun r1 h1 => r1 = none ∧ h1 = h') := by
  unfold F_X12_outOfTry_212 at hF
  refine ex_aload_n (q := 213) dX12_outOfTry_212 rfl rfl ?_
  obtain ⟨g2, hF⟩ := zg hF
  obtain ⟨r1, h1, e1, hF⟩ := zb_some hF
  refine ex_callV (d' := 5) (q := 216) (as := []) (st1 := []) (r := none) (h2 := h1) dX12_outOfTry_213 rfl (run_X12_leaveTry e1) mc_X12_leaveTry mv_X12_leaveTry ml_X12_306 (by decide) g2 rfl rfl (Nat.le_of_ble_eq_true rfl) rfl ?_
  obtain ⟨rfl, rfl⟩ := zr hF
  exact ex_ret none rfl ⟨dX12_outOfTry_216, rfl⟩ ⟨rfl, rfl⟩
def F_X12_outOfTry_167 (l0 l1 : Int) (h : zH) : zO := if 0 ≤ l0 then (if 0 ≤ gt h 12 l0 28 then (if 0 ≤ l1 ∧ l1 < 150 then (if gt h 70 (gt h 12 l0 28) l1 ≠ 1 then (F_X12_outOfTry_212 l0 h) else (if gt h 12 l0 52 ≠ 3 then (F_X12_outOfTry_212 l0 h) else (if 0 ≤ gt h 12 l0 50 then (if 0 ≤ gt h 12 l0 53 ∧ gt h 12 l0 53 < 16 then (if 0 ≤ gt h 87 (gt h 12 l0 50) (gt h 12 l0 53) then (F_X12_outOfTry_212 l0 h) else (if 0 ≤ gt h 12 l0 30 then (F_X12_outOfTry_212 l0 (pt h 87 (gt h 12 l0 50) (gt h 12 l0 53) (gt h 72 (gt h 12 l0 30) l1))) else none)) else none) else none))) else none) else none) else none
set_option maxHeartbeats 1000000 in
theorem x_X12_outOfTry_167 {l0 l1 : Int} {h : zH} {r : Int} {h' : zH} (hF : F_X12_outOfTry_167 l0 l1 h = some (r, h')) : Ex 6 M_X12_outOfTry 167 [some (vr 12 l0), some (vi l1), none, none] [] h (fun r1 h1 => r1 = none ∧ h1 = h') := by
  unfold F_X12_outOfTry_167 at hF
  refine ex_aload_n (q := 168) dX12_outOfTry_167 rfl rfl ?_
  obtain ⟨g1, hF⟩ := zg hF
  refine ex_get (q := 171) (v := vr 70 (gt h 12 l0 28)) 28 dX12_outOfTry_168 rfl fl_X12_72 g1 rfl rfl ?_
  refine ex_iload_n (q := 172) dX12_outOfTry_171 rfl rfl ?_
  obtain ⟨g2, hF⟩ := zg hF
  obtain ⟨g3, hF⟩ := zg hF
  refine ex_iald (q := 173) dX12_outOfTry_172 rfl kd_70 g2 g3.1 g3.2 ?_
  refine ex_iconst (q := 174) dX12_outOfTry_173 rfl ⟨by decide, by decide⟩ ?_
  refine ex_icmp_ne (q := 177) (tgt := 212) dX12_outOfTry_174 rfl (by decide) (fun c4 => ?_) (fun c4 => ?_)
  · have hF := ip c4 hF
    exact ex_forget (lo' := [some (vr 12 l0), none, none, none]) ⟨Or.inr rfl, Or.inl rfl, Or.inl rfl, Or.inl rfl, trivial⟩ (x_X12_outOfTry_212 hF)
  · have hF := im c4 hF
    refine ex_aload_n (q := 178) dX12_outOfTry_177 rfl rfl ?_
    refine ex_get (q := 181) (v := vi (gt h 12 l0 52)) 52 dX12_outOfTry_178 rfl fl_X12_255 g1 rfl rfl ?_
    refine ex_iconst (q := 182) dX12_outOfTry_181 rfl ⟨by decide, by decide⟩ ?_
    refine ex_icmp_ne (q := 185) (tgt := 212) dX12_outOfTry_182 rfl (by decide) (fun c5 => ?_) (fun c5 => ?_)
    · have hF := ip c5 hF
      exact ex_forget (lo' := [some (vr 12 l0), none, none, none]) ⟨Or.inr rfl, Or.inl rfl, Or.inl rfl, Or.inl rfl, trivial⟩ (x_X12_outOfTry_212 hF)
    · have hF := im c5 hF
      refine ex_aload_n (q := 186) dX12_outOfTry_185 rfl rfl ?_
      refine ex_get (q := 189) (v := vr 87 (gt h 12 l0 50)) 50 dX12_outOfTry_186 rfl fl_X12_123 g1 rfl rfl ?_
      refine ex_aload_n (q := 190) dX12_outOfTry_189 rfl rfl ?_
      refine ex_get (q := 193) (v := vi (gt h 12 l0 53)) 53 dX12_outOfTry_190 rfl fl_X12_252 g1 rfl rfl ?_
      obtain ⟨g6, hF⟩ := zg hF
      obtain ⟨g7, hF⟩ := zg hF
      refine ex_iald (q := 194) dX12_outOfTry_193 rfl kd_87 g6 g7.1 g7.2 ?_
      refine ex_if_ge (q := 197) (tgt := 212) dX12_outOfTry_194 rfl (by decide) (fun c8 => ?_) (fun c8 => ?_)
      · have hF := ip c8 hF
        exact ex_forget (lo' := [some (vr 12 l0), none, none, none]) ⟨Or.inr rfl, Or.inl rfl, Or.inl rfl, Or.inl rfl, trivial⟩ (x_X12_outOfTry_212 hF)
      · have hF := im c8 hF
        refine ex_aload_n (q := 198) dX12_outOfTry_197 rfl rfl ?_
        refine ex_get (q := 201) (v := vr 87 (gt h 12 l0 50)) 50 dX12_outOfTry_198 rfl fl_X12_123 g1 rfl rfl ?_
        refine ex_aload_n (q := 202) dX12_outOfTry_201 rfl rfl ?_
        refine ex_get (q := 205) (v := vi (gt h 12 l0 53)) 53 dX12_outOfTry_202 rfl fl_X12_252 g1 rfl rfl ?_
        refine ex_aload_n (q := 206) dX12_outOfTry_205 rfl rfl ?_
        refine ex_get (q := 209) (v := vr 72 (gt h 12 l0 30)) 30 dX12_outOfTry_206 rfl fl_X12_78 g1 rfl rfl ?_
        refine ex_iload_n (q := 210) dX12_outOfTry_209 rfl rfl ?_
        obtain ⟨g9, hF⟩ := zg hF
        refine ex_iald (q := 211) dX12_outOfTry_210 rfl kd_72 g9 g3.1 g3.2 ?_
        refine ex_iast (q := 212) dX12_outOfTry_211 rfl kd_87 g6 g7.1 g7.2 ?_
        exact ex_forget (lo' := [some (vr 12 l0), none, none, none]) ⟨Or.inr rfl, Or.inl rfl, Or.inl rfl, Or.inl rfl, trivial⟩ (x_X12_outOfTry_212 hF)
def F_X12_outOfTry_73 (l0 : Int) (h : zH) : zO := if 0 ≤ l0 then (some (0, (pt h 12 l0 25 (wI ((gt h 12 l0 25) - 1))))) else none
set_option maxHeartbeats 1000000 in
theorem x_X12_outOfTry_73 {l0 : Int} {h : zH} {r : Int} {h' : zH} (hF : F_X12_outOfTry_73 l0 h = some (r, h')) : Ex 6 M_X12_outOfTry 73 [some (vr 12 l0), none, none, none] [] h (fun r1 h1 => r1 = none ∧ h1 = h') := by
  unfold F_X12_outOfTry_73 at hF
  refine ex_aload_n (q := 74) dX12_outOfTry_73 rfl rfl ?_
  refine ex_dup (q := 75) dX12_outOfTry_74 rfl (fun _ z => by cases z) ?_
  obtain ⟨g1, hF⟩ := zg hF
  refine ex_get (q := 78) (v := vi (gt h 12 l0 25)) 25 dX12_outOfTry_75 rfl fl_X12_217 g1 rfl rfl ?_
  refine ex_iconst (q := 79) dX12_outOfTry_78 rfl ⟨by decide, by decide⟩ ?_
  refine ex_isub (q := 80) dX12_outOfTry_79 rfl ?_
  refine ex_put (q := 83) 25 dX12_outOfTry_80 rfl fl_X12_217 (by decide) g1 rfl rfl (fun z => by cases z) ?_
  obtain ⟨rfl, rfl⟩ := zr hF
  exact ex_ret none rfl ⟨dX12_outOfTry_83, rfl⟩ ⟨rfl, rfl⟩
def F_X12_outOfTry_0 (l0 : Int) (h : zH) : zO := if 0 ≤ l0 then (if 0 ≤ gt h 12 l0 28 then (if 0 ≤ gt h 12 l0 67 ∧ gt h 12 l0 67 < 150 then (if 0 ≤ wI ((gt h 12 l0 25) - 1) ∧ wI ((gt h 12 l0 25) - 1) < 150 then (if gt h 70 (gt h 12 l0 28) (wI ((gt h 12 l0 25) - 1)) ≠ 2 then (if gt h 70 (gt h 12 l0 28) (wI ((gt h 12 l0 25) - 1)) ≠ 0 then (F_X12_outOfTry_167 l0 (wI ((gt h 12 l0 25) - 1)) h) else (if gt h 12 l0 52 ≠ 3 then (F_X12_outOfTry_167 l0 (wI ((gt h 12 l0 25) - 1)) h) else (if 0 ≤ gt h 12 l0 27 then (zb (F_X12_guardOf l0 (gt h 70 (gt h 12 l0 28) (gt h 12 l0 67)) (gt h 69 (gt h 12 l0 27) (wI ((gt h 12 l0 25) - 1))) h) (fun r9 h9 => if r9 < 0 then (F_X12_outOfTry_212 l0 h9) else (if 0 ≤ gt h9 12 l0 28 then (if 0 ≤ gt (pt h9 70 (gt h9 12 l0 28) (wI ((gt h 12 l0 25) - 1)) 1) 12 l0 30 then (zl (pt (pt h9 70 (gt h9 12 l0 28) (wI ((gt h 12 l0 25) - 1)) 1) 72 (gt (pt h9 70 (gt h9 12 l0 28) (wI ((gt h 12 l0 25) - 1)) 1) 12 l0 30) (wI ((gt h 12 l0 25) - 1)) (gt (pt h9 70 (gt h9 12 l0 28) (wI ((gt h 12 l0 25) - 1)) 1) 12 l0 53)) (fun k13 => zb (F_X12_step l0 (pt k13 12 l0 52 0)) (fun r14 h14 => if r14 = 0 then (some (0, h14)) else (if 0 ≤ gt h14 12 l0 31 then (if 0 ≤ gt h14 12 l0 67 ∧ gt h14 12 l0 67 < 150 then (zb (F_X12_goTo l0 (wI (r9 + 1)) (pt h14 73 (gt h14 12 l0 31) (gt h14 12 l0 67) r9)) (fun r18 h18 => some (0, h18))) else none) else none)))) else none) else none))) else none))) else (if 0 ≤ gt h 12 l0 29 then (if gt h 71 (gt h 12 l0 29) (wI ((gt h 12 l0 25) - 1)) ≠ 3 then (F_X12_outOfTry_73 l0 h) else (if gt h 12 l0 52 ≠ 3 then (F_X12_outOfTry_73 l0 (pt h 12 l0 58 (wI ((gt h 12 l0 58) + 1)))) else (if 0 ≤ gt h 12 l0 31 then (if 0 ≤ gt h 12 l0 51 then (if 0 ≤ gt h 73 (gt h 12 l0 31) (wI ((gt h 12 l0 25) - 1)) ∧ gt h 73 (gt h 12 l0 31) (wI ((gt h 12 l0 25) - 1)) < 16 then (F_X12_outOfTry_73 l0 (pt h 88 (gt h 12 l0 51) (gt h 73 (gt h 12 l0 31) (wI ((gt h 12 l0 25) - 1))) (gt h 12 l0 53))) else none) else none) else none))) else none)) else none) else none) else none) else none
set_option maxHeartbeats 1000000 in
theorem x_X12_outOfTry_0 {l0 : Int} {h : zH} {r : Int} {h' : zH} (hF : F_X12_outOfTry_0 l0 h = some (r, h')) : Ex 6 M_X12_outOfTry 0 [some (vr 12 l0), none, none, none] [] h (fun r1 h1 => r1 = none ∧ h1 = h') := by
  unfold F_X12_outOfTry_0 at hF
  refine ex_aload_n (q := 1) dX12_outOfTry_0 rfl rfl ?_
  obtain ⟨g1, hF⟩ := zg hF
  refine ex_get (q := 4) (v := vi (gt h 12 l0 25)) 25 dX12_outOfTry_1 rfl fl_X12_217 g1 rfl rfl ?_
  refine ex_iconst (q := 5) dX12_outOfTry_4 rfl ⟨by decide, by decide⟩ ?_
  refine ex_isub (q := 6) dX12_outOfTry_5 rfl ?_
  refine ex_istore_n (q := 7) (lo' := [some (vr 12 l0), some (vi (wI ((gt h 12 l0 25) - 1))), none, none]) dX12_outOfTry_6 rfl (by decide) rfl rfl ?_
  refine ex_aload_n (q := 8) dX12_outOfTry_7 rfl rfl ?_
  refine ex_get (q := 11) (v := vr 70 (gt h 12 l0 28)) 28 dX12_outOfTry_8 rfl fl_X12_72 g1 rfl rfl ?_
  refine ex_aload_n (q := 12) dX12_outOfTry_11 rfl rfl ?_
  refine ex_get (q := 15) (v := vi (gt h 12 l0 67)) 67 dX12_outOfTry_12 rfl fl_X12_220 g1 rfl rfl ?_
  obtain ⟨g2, hF⟩ := zg hF
  obtain ⟨g3, hF⟩ := zg hF
  refine ex_iald (q := 16) dX12_outOfTry_15 rfl kd_70 g2 g3.1 g3.2 ?_
  refine ex_istore_n (q := 17) (lo' := [some (vr 12 l0), some (vi (wI ((gt h 12 l0 25) - 1))), some (vi (gt h 70 (gt h 12 l0 28) (gt h 12 l0 67))), none]) dX12_outOfTry_16 rfl (by decide) rfl rfl ?_
  refine ex_aload_n (q := 18) dX12_outOfTry_17 rfl rfl ?_
  refine ex_get (q := 21) (v := vr 70 (gt h 12 l0 28)) 28 dX12_outOfTry_18 rfl fl_X12_72 g1 rfl rfl ?_
  refine ex_iload_n (q := 22) dX12_outOfTry_21 rfl rfl ?_
  obtain ⟨g4, hF⟩ := zg hF
  refine ex_iald (q := 23) dX12_outOfTry_22 rfl kd_70 g2 g4.1 g4.2 ?_
  refine ex_iconst (q := 24) dX12_outOfTry_23 rfl ⟨by decide, by decide⟩ ?_
  refine ex_icmp_ne (q := 27) (tgt := 84) dX12_outOfTry_24 rfl (by decide) (fun c5 => ?_) (fun c5 => ?_)
  · have hF := ip c5 hF
    refine ex_aload_n (q := 85) dX12_outOfTry_84 rfl rfl ?_
    refine ex_get (q := 88) (v := vr 70 (gt h 12 l0 28)) 28 dX12_outOfTry_85 rfl fl_X12_72 g1 rfl rfl ?_
    refine ex_iload_n (q := 89) dX12_outOfTry_88 rfl rfl ?_
    refine ex_iald (q := 90) dX12_outOfTry_89 rfl kd_70 g2 g4.1 g4.2 ?_
    refine ex_if_ne (q := 93) (tgt := 167) dX12_outOfTry_90 rfl (by decide) (fun c6 => ?_) (fun c6 => ?_)
    · have hF := ip c6 hF
      exact ex_forget (lo' := [some (vr 12 l0), some (vi (wI ((gt h 12 l0 25) - 1))), none, none]) ⟨Or.inr rfl, Or.inr rfl, Or.inl rfl, Or.inl rfl, trivial⟩ (x_X12_outOfTry_167 hF)
    · have hF := im c6 hF
      refine ex_aload_n (q := 94) dX12_outOfTry_93 rfl rfl ?_
      refine ex_get (q := 97) (v := vi (gt h 12 l0 52)) 52 dX12_outOfTry_94 rfl fl_X12_255 g1 rfl rfl ?_
      refine ex_iconst (q := 98) dX12_outOfTry_97 rfl ⟨by decide, by decide⟩ ?_
      refine ex_icmp_ne (q := 101) (tgt := 167) dX12_outOfTry_98 rfl (by decide) (fun c7 => ?_) (fun c7 => ?_)
      · have hF := ip c7 hF
        exact ex_forget (lo' := [some (vr 12 l0), some (vi (wI ((gt h 12 l0 25) - 1))), none, none]) ⟨Or.inr rfl, Or.inr rfl, Or.inl rfl, Or.inl rfl, trivial⟩ (x_X12_outOfTry_167 hF)
      · have hF := im c7 hF
        refine ex_aload_n (q := 102) dX12_outOfTry_101 rfl rfl ?_
        refine ex_iload_n (q := 103) dX12_outOfTry_102 rfl rfl ?_
        refine ex_aload_n (q := 104) dX12_outOfTry_103 rfl rfl ?_
        refine ex_get (q := 107) (v := vr 69 (gt h 12 l0 27)) 27 dX12_outOfTry_104 rfl fl_X12_69 g1 rfl rfl ?_
        refine ex_iload_n (q := 108) dX12_outOfTry_107 rfl rfl ?_
        obtain ⟨g8, hF⟩ := zg hF
        refine ex_iald (q := 109) dX12_outOfTry_108 rfl kd_69 g8 g4.1 g4.2 ?_
        obtain ⟨r9, h9, e9, hF⟩ := zb_some hF
        refine ex_callV (d' := 2) (q := 112) (as := [vi (gt h 70 (gt h 12 l0 28) (gt h 12 l0 67)), vi (gt h 69 (gt h 12 l0 27) (wI ((gt h 12 l0 25) - 1)))]) (st1 := [vi r9]) (r := (some (vi r9))) (h2 := h9) dX12_outOfTry_109 rfl (run_X12_guardOf e9) mc_X12_guardOf mv_X12_guardOf ml_X12_303 (by decide) g1 rfl rfl (Nat.le_of_ble_eq_true rfl) rfl ?_
        refine ex_istore_n (q := 113) (lo' := [some (vr 12 l0), some (vi (wI ((gt h 12 l0 25) - 1))), some (vi (gt h 70 (gt h 12 l0 28) (gt h 12 l0 67))), some (vi r9)]) dX12_outOfTry_112 rfl (by decide) rfl rfl ?_
        refine ex_iload_n (q := 114) dX12_outOfTry_113 rfl rfl ?_
        refine ex_if_lt (q := 117) (tgt := 164) dX12_outOfTry_114 rfl (by decide) (fun c10 => ?_) (fun c10 => ?_)
        · have hF := ip c10 hF
          refine ex_goto (q := 212) dX12_outOfTry_164 (by decide) ?_
          exact ex_forget (lo' := [some (vr 12 l0), none, none, none]) ⟨Or.inr rfl, Or.inl rfl, Or.inl rfl, Or.inl rfl, trivial⟩ (x_X12_outOfTry_212 hF)
        · have hF := im c10 hF
          refine ex_aload_n (q := 118) dX12_outOfTry_117 rfl rfl ?_
          refine ex_get (q := 121) (v := vr 70 (gt h9 12 l0 28)) 28 dX12_outOfTry_118 rfl fl_X12_72 g1 rfl rfl ?_
          refine ex_iload_n (q := 122) dX12_outOfTry_121 rfl rfl ?_
          refine ex_iconst (q := 123) dX12_outOfTry_122 rfl ⟨by decide, by decide⟩ ?_
          obtain ⟨g11, hF⟩ := zg hF
          refine ex_iast (q := 124) dX12_outOfTry_123 rfl kd_70 g11 g4.1 g4.2 ?_
          refine ex_aload_n (q := 125) dX12_outOfTry_124 rfl rfl ?_
          refine ex_get (q := 128) (v := vr 72 (gt (pt h9 70 (gt h9 12 l0 28) (wI ((gt h 12 l0 25) - 1)) 1) 12 l0 30)) 30 dX12_outOfTry_125 rfl fl_X12_78 g1 rfl rfl ?_
          refine ex_iload_n (q := 129) dX12_outOfTry_128 rfl rfl ?_
          refine ex_aload_n (q := 130) dX12_outOfTry_129 rfl rfl ?_
          refine ex_get (q := 133) (v := vi (gt (pt h9 70 (gt h9 12 l0 28) (wI ((gt h 12 l0 25) - 1)) 1) 12 l0 53)) 53 dX12_outOfTry_130 rfl fl_X12_252 g1 rfl rfl ?_
          obtain ⟨g12, hF⟩ := zg hF
          refine ex_iast (q := 134) dX12_outOfTry_133 rfl kd_72 g12 g4.1 g4.2 ?_
          have hF := zl_e hF
          generalize pt (pt h9 70 (gt h9 12 l0 28) (wI ((gt h 12 l0 25) - 1)) 1) 72 (gt (pt h9 70 (gt h9 12 l0 28) (wI ((gt h 12 l0 25) - 1)) 1) 12 l0 30) (wI ((gt h 12 l0 25) - 1)) (gt (pt h9 70 (gt h9 12 l0 28) (wI ((gt h 12 l0 25) - 1)) 1) 12 l0 53) = k13 at hF ⊢
          refine ex_aload_n (q := 135) dX12_outOfTry_134 rfl rfl ?_
          refine ex_iconst (q := 136) dX12_outOfTry_135 rfl ⟨by decide, by decide⟩ ?_
          refine ex_put (q := 139) 52 dX12_outOfTry_136 rfl fl_X12_255 (by decide) g1 rfl rfl (fun z => by cases z) ?_
          refine ex_aload_n (q := 140) dX12_outOfTry_139 rfl rfl ?_
          obtain ⟨r14, h14, e14, hF⟩ := zb_some hF
          refine ex_callV (d' := 4) (q := 143) (as := []) (st1 := [vi r14]) (r := (some (vi r14))) (h2 := h14) dX12_outOfTry_140 rfl (run_X12_step e14) mc_X12_step mv_X12_step ml_X12_293 (by decide) g1 rfl rfl (Nat.le_of_ble_eq_true rfl) rfl ?_
          refine ex_if_eq (q := 146) (tgt := 163) dX12_outOfTry_143 rfl (by decide) (fun c15 => ?_) (fun c15 => ?_)
          · have hF := ip c15 hF
            obtain ⟨rfl, rfl⟩ := zr hF
            exact ex_ret none rfl ⟨dX12_outOfTry_163, rfl⟩ ⟨rfl, rfl⟩
          · have hF := im c15 hF
            refine ex_aload_n (q := 147) dX12_outOfTry_146 rfl rfl ?_
            refine ex_get (q := 150) (v := vr 73 (gt h14 12 l0 31)) 31 dX12_outOfTry_147 rfl fl_X12_81 g1 rfl rfl ?_
            refine ex_aload_n (q := 151) dX12_outOfTry_150 rfl rfl ?_
            refine ex_get (q := 154) (v := vi (gt h14 12 l0 67)) 67 dX12_outOfTry_151 rfl fl_X12_220 g1 rfl rfl ?_
            refine ex_iload_n (q := 155) dX12_outOfTry_154 rfl rfl ?_
            obtain ⟨g16, hF⟩ := zg hF
            obtain ⟨g17, hF⟩ := zg hF
            refine ex_iast (q := 156) dX12_outOfTry_155 rfl kd_73 g16 g17.1 g17.2 ?_
            refine ex_aload_n (q := 157) dX12_outOfTry_156 rfl rfl ?_
            refine ex_iload_n (q := 158) dX12_outOfTry_157 rfl rfl ?_
            refine ex_iconst (q := 159) dX12_outOfTry_158 rfl ⟨by decide, by decide⟩ ?_
            refine ex_iadd (q := 160) dX12_outOfTry_159 rfl ?_
            obtain ⟨r18, h18, e18, hF⟩ := zb_some hF
            refine ex_callV (d' := 0) (q := 163) (as := [vi (wI (r9 + 1))]) (st1 := []) (r := none) (h2 := h18) dX12_outOfTry_160 rfl (run_X12_goTo e18) mc_X12_goTo mv_X12_goTo ml_X12_230 (by decide) g1 rfl rfl (Nat.le_of_ble_eq_true rfl) rfl ?_
            obtain ⟨rfl, rfl⟩ := zr hF
            exact ex_ret none rfl ⟨dX12_outOfTry_163, rfl⟩ ⟨rfl, rfl⟩
  · have hF := im c5 hF
    refine ex_aload_n (q := 28) dX12_outOfTry_27 rfl rfl ?_
    refine ex_get (q := 31) (v := vr 71 (gt h 12 l0 29)) 29 dX12_outOfTry_28 rfl fl_X12_75 g1 rfl rfl ?_
    refine ex_iload_n (q := 32) dX12_outOfTry_31 rfl rfl ?_
    obtain ⟨g19, hF⟩ := zg hF
    refine ex_iald (q := 33) dX12_outOfTry_32 rfl kd_71 g19 g4.1 g4.2 ?_
    refine ex_iconst (q := 34) dX12_outOfTry_33 rfl ⟨by decide, by decide⟩ ?_
    refine ex_icmp_ne (q := 37) (tgt := 73) dX12_outOfTry_34 rfl (by decide) (fun c20 => ?_) (fun c20 => ?_)
    · have hF := ip c20 hF
      exact ex_forget (lo' := [some (vr 12 l0), none, none, none]) ⟨Or.inr rfl, Or.inl rfl, Or.inl rfl, Or.inl rfl, trivial⟩ (x_X12_outOfTry_73 hF)
    · have hF := im c20 hF
      refine ex_aload_n (q := 38) dX12_outOfTry_37 rfl rfl ?_
      refine ex_get (q := 41) (v := vi (gt h 12 l0 52)) 52 dX12_outOfTry_38 rfl fl_X12_255 g1 rfl rfl ?_
      refine ex_iconst (q := 42) dX12_outOfTry_41 rfl ⟨by decide, by decide⟩ ?_
      refine ex_icmp_ne (q := 45) (tgt := 63) dX12_outOfTry_42 rfl (by decide) (fun c21 => ?_) (fun c21 => ?_)
      · have hF := ip c21 hF
        refine ex_aload_n (q := 64) dX12_outOfTry_63 rfl rfl ?_
        refine ex_dup (q := 65) dX12_outOfTry_64 rfl (fun _ z => by cases z) ?_
        refine ex_get (q := 68) (v := vi (gt h 12 l0 58)) 58 dX12_outOfTry_65 rfl fl_X12_300 g1 rfl rfl ?_
        refine ex_iconst (q := 69) dX12_outOfTry_68 rfl ⟨by decide, by decide⟩ ?_
        refine ex_iadd (q := 70) dX12_outOfTry_69 rfl ?_
        refine ex_put (q := 73) 58 dX12_outOfTry_70 rfl fl_X12_300 (by decide) g1 rfl rfl (fun z => by cases z) ?_
        exact ex_forget (lo' := [some (vr 12 l0), none, none, none]) ⟨Or.inr rfl, Or.inl rfl, Or.inl rfl, Or.inl rfl, trivial⟩ (x_X12_outOfTry_73 hF)
      · have hF := im c21 hF
        refine ex_aload_n (q := 46) dX12_outOfTry_45 rfl rfl ?_
        refine ex_get (q := 49) (v := vr 88 (gt h 12 l0 51)) 51 dX12_outOfTry_46 rfl fl_X12_126 g1 rfl rfl ?_
        refine ex_aload_n (q := 50) dX12_outOfTry_49 rfl rfl ?_
        refine ex_get (q := 53) (v := vr 73 (gt h 12 l0 31)) 31 dX12_outOfTry_50 rfl fl_X12_81 g1 rfl rfl ?_
        refine ex_iload_n (q := 54) dX12_outOfTry_53 rfl rfl ?_
        obtain ⟨g22, hF⟩ := zg hF
        refine ex_iald (q := 55) dX12_outOfTry_54 rfl kd_73 g22 g4.1 g4.2 ?_
        refine ex_aload_n (q := 56) dX12_outOfTry_55 rfl rfl ?_
        refine ex_get (q := 59) (v := vi (gt h 12 l0 53)) 53 dX12_outOfTry_56 rfl fl_X12_252 g1 rfl rfl ?_
        obtain ⟨g23, hF⟩ := zg hF
        obtain ⟨g24, hF⟩ := zg hF
        refine ex_iast (q := 60) dX12_outOfTry_59 rfl kd_88 g23 g24.1 g24.2 ?_
        refine ex_goto (q := 73) dX12_outOfTry_60 (by decide) ?_
        exact ex_forget (lo' := [some (vr 12 l0), none, none, none]) ⟨Or.inr rfl, Or.inl rfl, Or.inl rfl, Or.inl rfl, trivial⟩ (x_X12_outOfTry_73 hF)
def F_X12_outOfTry (l0 : Int) (h : zH) : zO := F_X12_outOfTry_0 l0 h
theorem run_X12_outOfTry {l0 : Int} {h : zH} {r : Int} {h' : zH} (hF : F_X12_outOfTry l0 h = some (r, h')) : Run 6 yX12_outOfTry cX12_outOfTry 4 none [vr 12 l0] h none h' := run_of (M := M_X12_outOfTry) (by decide) rfl (fun z => by cases z) (Nat.le_of_ble_eq_true rfl) (x_X12_outOfTry_0 hF)
abbrev M_X12_findAct : zM := (RX12, (cX12_findAct, (1, (none, false))))
def F_X12_findAct_10b (ag10 : Int → zH → zO) (l0 : Int) (h : zH) : zO := if 0 ≤ l0 then (if gt h 12 l0 67 < 0 then (some (0, h)) else (if 0 ≤ gt h 12 l0 26 then (if 0 ≤ gt h 12 l0 67 ∧ gt h 12 l0 67 < 150 then (if gt h 68 (gt h 12 l0 26) (gt h 12 l0 67) = 17 then (some (0, h)) else (ag10 l0 (pt h 12 l0 67 (wI ((gt h 12 l0 67) - 1))))) else none) else none)) else none
set_option maxHeartbeats 1000000 in
theorem x_X12_findAct_10b {ag10 : Int → zH → zO} (hag10 : ∀ (l0 : Int) (h : zH) (r : Int) (h' : zH), ag10 l0 h = some (r, h') → Ex 0 M_X12_findAct 10 [some (vr 12 l0)] [] h (fun r1 h1 => r1 = none ∧ h1 = h')) {l0 : Int} {h : zH} {r : Int} {h' : zH} (hF : F_X12_findAct_10b ag10 l0 h = some (r, h')) : Ex 0 M_X12_findAct 10 [some (vr 12 l0)] [] h (fun r1 h1 => r1 = none ∧ h1 = h') := by
  unfold F_X12_findAct_10b at hF
  refine ex_aload_n (q := 11) dX12_findAct_10 rfl rfl ?_
  obtain ⟨g1, hF⟩ := zg hF
  refine ex_get (q := 14) (v := vi (gt h 12 l0 67)) 67 dX12_findAct_11 rfl fl_X12_220 g1 rfl rfl ?_
  refine ex_if_lt (q := 17) (tgt := 44) dX12_findAct_14 rfl (by decide) (fun c2 => ?_) (fun c2 => ?_)
  · have hF := ip c2 hF
    obtain ⟨rfl, rfl⟩ := zr hF
    exact ex_ret none rfl ⟨dX12_findAct_44, rfl⟩ ⟨rfl, rfl⟩
  · have hF := im c2 hF
    refine ex_aload_n (q := 18) dX12_findAct_17 rfl rfl ?_
    refine ex_get (q := 21) (v := vr 68 (gt h 12 l0 26)) 26 dX12_findAct_18 rfl fl_X12_66 g1 rfl rfl ?_
    refine ex_aload_n (q := 22) dX12_findAct_21 rfl rfl ?_
    refine ex_get (q := 25) (v := vi (gt h 12 l0 67)) 67 dX12_findAct_22 rfl fl_X12_220 g1 rfl rfl ?_
    obtain ⟨g3, hF⟩ := zg hF
    obtain ⟨g4, hF⟩ := zg hF
    refine ex_iald (q := 26) dX12_findAct_25 rfl kd_68 g3 g4.1 g4.2 ?_
    refine ex_bipush (q := 28) dX12_findAct_26 rfl (by decide) ⟨by decide, by decide⟩ ?_
    refine ex_icmp_eq (q := 31) (tgt := 44) dX12_findAct_28 rfl (by decide) (fun c5 => ?_) (fun c5 => ?_)
    · have hF := ip c5 hF
      obtain ⟨rfl, rfl⟩ := zr hF
      exact ex_ret none rfl ⟨dX12_findAct_44, rfl⟩ ⟨rfl, rfl⟩
    · have hF := im c5 hF
      refine ex_aload_n (q := 32) dX12_findAct_31 rfl rfl ?_
      refine ex_dup (q := 33) dX12_findAct_32 rfl (fun _ z => by cases z) ?_
      refine ex_get (q := 36) (v := vi (gt h 12 l0 67)) 67 dX12_findAct_33 rfl fl_X12_220 g1 rfl rfl ?_
      refine ex_iconst (q := 37) dX12_findAct_36 rfl ⟨by decide, by decide⟩ ?_
      refine ex_isub (q := 38) dX12_findAct_37 rfl ?_
      refine ex_put (q := 41) 67 dX12_findAct_38 rfl fl_X12_220 (by decide) g1 rfl rfl (fun z => by cases z) ?_
      refine ex_goto (q := 10) dX12_findAct_41 (by decide) ?_
      exact ex_forget (lo' := [some (vr 12 l0)]) ⟨Or.inr rfl, trivial⟩ (hag10 _ _ _ _ hF)
def F_X12_findAct_10 : Nat → Int → zH → zO
  | 0, _, _ => none
  | n + 1, l0, h => F_X12_findAct_10b (F_X12_findAct_10 n) l0 h
theorem x_X12_findAct_10 : ∀ (n : Nat) (l0 : Int) (h : zH) (r : Int) (h' : zH), F_X12_findAct_10 n l0 h = some (r, h') → Ex 0 M_X12_findAct 10 [some (vr 12 l0)] [] h (fun r1 h1 => r1 = none ∧ h1 = h')
  | 0, _, _, _, _, hF => by cases hF
  | n + 1, _, _, _, _, hF => x_X12_findAct_10b (x_X12_findAct_10 n) hF
def F_X12_findAct_0 (l0 : Int) (h : zH) : zO := if 0 ≤ l0 then (F_X12_findAct_10 zF l0 (pt h 12 l0 67 (wI ((gt h 12 l0 25) - 1)))) else none
set_option maxHeartbeats 1000000 in
theorem x_X12_findAct_0 {l0 : Int} {h : zH} {r : Int} {h' : zH} (hF : F_X12_findAct_0 l0 h = some (r, h')) : Ex 0 M_X12_findAct 0 [some (vr 12 l0)] [] h (fun r1 h1 => r1 = none ∧ h1 = h') := by
  unfold F_X12_findAct_0 at hF
  refine ex_aload_n (q := 1) dX12_findAct_0 rfl rfl ?_
  refine ex_aload_n (q := 2) dX12_findAct_1 rfl rfl ?_
  obtain ⟨g1, hF⟩ := zg hF
  refine ex_get (q := 5) (v := vi (gt h 12 l0 25)) 25 dX12_findAct_2 rfl fl_X12_217 g1 rfl rfl ?_
  refine ex_iconst (q := 6) dX12_findAct_5 rfl ⟨by decide, by decide⟩ ?_
  refine ex_isub (q := 7) dX12_findAct_6 rfl ?_
  refine ex_put (q := 10) 67 dX12_findAct_7 rfl fl_X12_220 (by decide) g1 rfl rfl (fun z => by cases z) ?_
  exact ex_forget (lo' := [some (vr 12 l0)]) ⟨Or.inr rfl, trivial⟩ (x_X12_findAct_10 _ _ _ _ _ hF)
def F_X12_findAct (l0 : Int) (h : zH) : zO := F_X12_findAct_0 l0 h
theorem run_X12_findAct {l0 : Int} {h : zH} {r : Int} {h' : zH} (hF : F_X12_findAct l0 h = some (r, h')) : Run 0 yX12_findAct cX12_findAct 1 none [vr 12 l0] h none h' := run_of (M := M_X12_findAct) (by decide) rfl (fun z => by cases z) (Nat.le_of_ble_eq_true rfl) (x_X12_findAct_0 hF)
abbrev M_X12_endAct : zM := (RX12, (cX12_endAct, (1, (none, false))))
def F_X12_endAct_0 (l0 : Int) (h : zH) : zO := if 0 ≤ l0 then (zl (pt (pt h 12 l0 25 (wI ((gt h 12 l0 25) - 1))) 12 l0 33 (wI ((gt (pt h 12 l0 25 (wI ((gt h 12 l0 25) - 1))) 12 l0 33) - 1))) (fun k2 => zb (F_X12_findAct l0 k2) (fun r3 h3 => if 0 ≤ gt h3 12 l0 67 then (if gt h3 12 l0 52 ≠ 1 then (some (0, h3)) else (some (0, (pt h3 12 l0 52 0)))) else (if gt (pt h3 12 l0 60 1) 12 l0 52 ≠ 3 then (if gt (pt (pt h3 12 l0 60 1) 12 l0 54 0) 12 l0 52 ≠ 3 then (some (0, (pt (pt (pt h3 12 l0 60 1) 12 l0 54 0) 12 l0 59 (-1)))) else (some (0, (pt (pt (pt h3 12 l0 60 1) 12 l0 54 0) 12 l0 59 (gt (pt (pt h3 12 l0 60 1) 12 l0 54 0) 12 l0 53))))) else (if gt (pt (pt h3 12 l0 60 1) 12 l0 54 1) 12 l0 52 ≠ 3 then (some (0, (pt (pt (pt h3 12 l0 60 1) 12 l0 54 1) 12 l0 59 (-1)))) else (some (0, (pt (pt (pt h3 12 l0 60 1) 12 l0 54 1) 12 l0 59 (gt (pt (pt h3 12 l0 60 1) 12 l0 54 1) 12 l0 53))))))))) else none
set_option maxHeartbeats 1000000 in
theorem x_X12_endAct_0 {l0 : Int} {h : zH} {r : Int} {h' : zH} (hF : F_X12_endAct_0 l0 h = some (r, h')) : Ex 1 M_X12_endAct 0 [some (vr 12 l0)] [] h (fun r1 h1 => r1 = none ∧ h1 = h') := by
  unfold F_X12_endAct_0 at hF
  refine ex_aload_n (q := 1) dX12_endAct_0 rfl rfl ?_
  refine ex_dup (q := 2) dX12_endAct_1 rfl (fun _ z => by cases z) ?_
  obtain ⟨g1, hF⟩ := zg hF
  refine ex_get (q := 5) (v := vi (gt h 12 l0 25)) 25 dX12_endAct_2 rfl fl_X12_217 g1 rfl rfl ?_
  refine ex_iconst (q := 6) dX12_endAct_5 rfl ⟨by decide, by decide⟩ ?_
  refine ex_isub (q := 7) dX12_endAct_6 rfl ?_
  refine ex_put (q := 10) 25 dX12_endAct_7 rfl fl_X12_217 (by decide) g1 rfl rfl (fun z => by cases z) ?_
  refine ex_aload_n (q := 11) dX12_endAct_10 rfl rfl ?_
  refine ex_dup (q := 12) dX12_endAct_11 rfl (fun _ z => by cases z) ?_
  refine ex_get (q := 15) (v := vi (gt (pt h 12 l0 25 (wI ((gt h 12 l0 25) - 1))) 12 l0 33)) 33 dX12_endAct_12 rfl fl_X12_223 g1 rfl rfl ?_
  refine ex_iconst (q := 16) dX12_endAct_15 rfl ⟨by decide, by decide⟩ ?_
  refine ex_isub (q := 17) dX12_endAct_16 rfl ?_
  refine ex_put (q := 20) 33 dX12_endAct_17 rfl fl_X12_223 (by decide) g1 rfl rfl (fun z => by cases z) ?_
  have hF := zl_e hF
  generalize pt (pt h 12 l0 25 (wI ((gt h 12 l0 25) - 1))) 12 l0 33 (wI ((gt (pt h 12 l0 25 (wI ((gt h 12 l0 25) - 1))) 12 l0 33) - 1)) = k2 at hF ⊢
  refine ex_aload_n (q := 21) dX12_endAct_20 rfl rfl ?_
  obtain ⟨r3, h3, e3, hF⟩ := zb_some hF
  refine ex_callV (d' := 0) (q := 24) (as := []) (st1 := []) (r := none) (h2 := h3) dX12_endAct_21 rfl (run_X12_findAct e3) mc_X12_findAct mv_X12_findAct ml_X12_318 (by decide) g1 rfl rfl (Nat.le_of_ble_eq_true rfl) rfl ?_
  refine ex_aload_n (q := 25) dX12_endAct_24 rfl rfl ?_
  refine ex_get (q := 28) (v := vi (gt h3 12 l0 67)) 67 dX12_endAct_25 rfl fl_X12_220 g1 rfl rfl ?_
  refine ex_if_ge (q := 31) (tgt := 76) dX12_endAct_28 rfl (by decide) (fun c4 => ?_) (fun c4 => ?_)
  · have hF := ip c4 hF
    refine ex_aload_n (q := 77) dX12_endAct_76 rfl rfl ?_
    refine ex_get (q := 80) (v := vi (gt h3 12 l0 52)) 52 dX12_endAct_77 rfl fl_X12_255 g1 rfl rfl ?_
    refine ex_iconst (q := 81) dX12_endAct_80 rfl ⟨by decide, by decide⟩ ?_
    refine ex_icmp_ne (q := 84) (tgt := 89) dX12_endAct_81 rfl (by decide) (fun c5 => ?_) (fun c5 => ?_)
    · have hF := ip c5 hF
      obtain ⟨rfl, rfl⟩ := zr hF
      exact ex_ret none rfl ⟨dX12_endAct_89, rfl⟩ ⟨rfl, rfl⟩
    · have hF := im c5 hF
      refine ex_aload_n (q := 85) dX12_endAct_84 rfl rfl ?_
      refine ex_iconst (q := 86) dX12_endAct_85 rfl ⟨by decide, by decide⟩ ?_
      refine ex_put (q := 89) 52 dX12_endAct_86 rfl fl_X12_255 (by decide) g1 rfl rfl (fun z => by cases z) ?_
      obtain ⟨rfl, rfl⟩ := zr hF
      exact ex_ret none rfl ⟨dX12_endAct_89, rfl⟩ ⟨rfl, rfl⟩
  · have hF := im c4 hF
    refine ex_aload_n (q := 32) dX12_endAct_31 rfl rfl ?_
    refine ex_iconst (q := 33) dX12_endAct_32 rfl ⟨by decide, by decide⟩ ?_
    refine ex_put (q := 36) 60 dX12_endAct_33 rfl fl_X12_270 (by decide) g1 rfl rfl (fun _ => by decide) ?_
    refine ex_aload_n (q := 37) dX12_endAct_36 rfl rfl ?_
    refine ex_aload_n (q := 38) dX12_endAct_37 rfl rfl ?_
    refine ex_get (q := 41) (v := vi (gt (pt h3 12 l0 60 1) 12 l0 52)) 52 dX12_endAct_38 rfl fl_X12_255 g1 rfl rfl ?_
    refine ex_iconst (q := 42) dX12_endAct_41 rfl ⟨by decide, by decide⟩ ?_
    refine ex_icmp_ne (q := 45) (tgt := 49) dX12_endAct_42 rfl (by decide) (fun c6 => ?_) (fun c6 => ?_)
    · have hF := ip c6 hF
      refine ex_iconst (q := 50) dX12_endAct_49 rfl ⟨by decide, by decide⟩ ?_
      refine ex_put (q := 53) 54 dX12_endAct_50 rfl fl_X12_267 (by decide) g1 rfl rfl (fun z => by cases z) ?_
      refine ex_aload_n (q := 54) dX12_endAct_53 rfl rfl ?_
      refine ex_aload_n (q := 55) dX12_endAct_54 rfl rfl ?_
      refine ex_get (q := 58) (v := vi (gt (pt (pt h3 12 l0 60 1) 12 l0 54 0) 12 l0 52)) 52 dX12_endAct_55 rfl fl_X12_255 g1 rfl rfl ?_
      refine ex_iconst (q := 59) dX12_endAct_58 rfl ⟨by decide, by decide⟩ ?_
      refine ex_icmp_ne (q := 62) (tgt := 69) dX12_endAct_59 rfl (by decide) (fun c7 => ?_) (fun c7 => ?_)
      · have hF := ip c7 hF
        refine ex_iconst (q := 70) dX12_endAct_69 rfl ⟨by decide, by decide⟩ ?_
        refine ex_put (q := 73) 59 dX12_endAct_70 rfl fl_X12_129 (by decide) g1 rfl rfl (fun z => by cases z) ?_
        refine ex_goto (q := 89) dX12_endAct_73 (by decide) ?_
        obtain ⟨rfl, rfl⟩ := zr hF
        exact ex_ret none rfl ⟨dX12_endAct_89, rfl⟩ ⟨rfl, rfl⟩
      · have hF := im c7 hF
        refine ex_aload_n (q := 63) dX12_endAct_62 rfl rfl ?_
        refine ex_get (q := 66) (v := vi (gt (pt (pt h3 12 l0 60 1) 12 l0 54 0) 12 l0 53)) 53 dX12_endAct_63 rfl fl_X12_252 g1 rfl rfl ?_
        refine ex_goto (q := 70) dX12_endAct_66 (by decide) ?_
        refine ex_put (q := 73) 59 dX12_endAct_70 rfl fl_X12_129 (by decide) g1 rfl rfl (fun z => by cases z) ?_
        refine ex_goto (q := 89) dX12_endAct_73 (by decide) ?_
        obtain ⟨rfl, rfl⟩ := zr hF
        exact ex_ret none rfl ⟨dX12_endAct_89, rfl⟩ ⟨rfl, rfl⟩
    · have hF := im c6 hF
      refine ex_iconst (q := 46) dX12_endAct_45 rfl ⟨by decide, by decide⟩ ?_
      refine ex_goto (q := 50) dX12_endAct_46 (by decide) ?_
      refine ex_put (q := 53) 54 dX12_endAct_50 rfl fl_X12_267 (by decide) g1 rfl rfl (fun z => by cases z) ?_
      refine ex_aload_n (q := 54) dX12_endAct_53 rfl rfl ?_
      refine ex_aload_n (q := 55) dX12_endAct_54 rfl rfl ?_
      refine ex_get (q := 58) (v := vi (gt (pt (pt h3 12 l0 60 1) 12 l0 54 1) 12 l0 52)) 52 dX12_endAct_55 rfl fl_X12_255 g1 rfl rfl ?_
      refine ex_iconst (q := 59) dX12_endAct_58 rfl ⟨by decide, by decide⟩ ?_
      refine ex_icmp_ne (q := 62) (tgt := 69) dX12_endAct_59 rfl (by decide) (fun c8 => ?_) (fun c8 => ?_)
      · have hF := ip c8 hF
        refine ex_iconst (q := 70) dX12_endAct_69 rfl ⟨by decide, by decide⟩ ?_
        refine ex_put (q := 73) 59 dX12_endAct_70 rfl fl_X12_129 (by decide) g1 rfl rfl (fun z => by cases z) ?_
        refine ex_goto (q := 89) dX12_endAct_73 (by decide) ?_
        obtain ⟨rfl, rfl⟩ := zr hF
        exact ex_ret none rfl ⟨dX12_endAct_89, rfl⟩ ⟨rfl, rfl⟩
      · have hF := im c8 hF
        refine ex_aload_n (q := 63) dX12_endAct_62 rfl rfl ?_
        refine ex_get (q := 66) (v := vi (gt (pt (pt h3 12 l0 60 1) 12 l0 54 1) 12 l0 53)) 53 dX12_endAct_63 rfl fl_X12_252 g1 rfl rfl ?_
        refine ex_goto (q := 70) dX12_endAct_66 (by decide) ?_
        refine ex_put (q := 73) 59 dX12_endAct_70 rfl fl_X12_129 (by decide) g1 rfl rfl (fun z => by cases z) ?_
        refine ex_goto (q := 89) dX12_endAct_73 (by decide) ?_
        obtain ⟨rfl, rfl⟩ := zr hF
        exact ex_ret none rfl ⟨dX12_endAct_89, rfl⟩ ⟨rfl, rfl⟩
def F_X12_endAct (l0 : Int) (h : zH) : zO := F_X12_endAct_0 l0 h
theorem run_X12_endAct {l0 : Int} {h : zH} {r : Int} {h' : zH} (hF : F_X12_endAct l0 h = some (r, h')) : Run 1 yX12_endAct cX12_endAct 1 none [vr 12 l0] h none h' := run_of (M := M_X12_endAct) (by decide) rfl (fun z => by cases z) (Nat.le_of_ble_eq_true rfl) (x_X12_endAct_0 hF)
abbrev M_X12_unwind : zM := (RX12, (cX12_unwind, (2, (none, false))))
def F_X12_unwind_0 (l0 : Int) (h : zH) : zO := if 0 ≤ l0 then (if 0 ≤ gt h 12 l0 26 then (if 0 ≤ wI ((gt h 12 l0 25) - 1) ∧ wI ((gt h 12 l0 25) - 1) < 150 then (if gt h 68 (gt h 12 l0 26) (wI ((gt h 12 l0 25) - 1)) = 11 then (if gt (pt h 12 l0 25 (wI ((gt h 12 l0 25) - 1))) 12 l0 52 ≠ 2 then (some (0, (pt h 12 l0 25 (wI ((gt h 12 l0 25) - 1))))) else (if 0 ≤ gt (pt (pt h 12 l0 25 (wI ((gt h 12 l0 25) - 1))) 12 l0 52 0) 12 l0 28 then (if 0 ≤ gt (pt (pt h 12 l0 25 (wI ((gt h 12 l0 25) - 1))) 12 l0 52 0) 12 l0 67 ∧ gt (pt (pt h 12 l0 25 (wI ((gt h 12 l0 25) - 1))) 12 l0 52 0) 12 l0 67 < 150 then (if 0 ≤ gt (pt (pt h 12 l0 25 (wI ((gt h 12 l0 25) - 1))) 12 l0 52 0) 12 l0 27 then (zb (F_X12_endOf l0 (gt (pt (pt h 12 l0 25 (wI ((gt h 12 l0 25) - 1))) 12 l0 52 0) 70 (gt (pt (pt h 12 l0 25 (wI ((gt h 12 l0 25) - 1))) 12 l0 52 0) 12 l0 28) (gt (pt (pt h 12 l0 25 (wI ((gt h 12 l0 25) - 1))) 12 l0 52 0) 12 l0 67)) (gt (pt (pt h 12 l0 25 (wI ((gt h 12 l0 25) - 1))) 12 l0 52 0) 69 (gt (pt (pt h 12 l0 25 (wI ((gt h 12 l0 25) - 1))) 12 l0 52 0) 12 l0 27) (wI ((gt h 12 l0 25) - 1))) (pt (pt h 12 l0 25 (wI ((gt h 12 l0 25) - 1))) 12 l0 52 0)) (fun r9 h9 => zb (F_X12_goTo l0 (wI (r9 + 1)) h9) (fun r10 h10 => some (0, h10)))) else none) else none) else none)) else (if gt h 68 (gt h 12 l0 26) (wI ((gt h 12 l0 25) - 1)) = 12 then (zb (F_X12_endScope l0 h) (fun r12 h12 => some (0, h12))) else (if gt h 68 (gt h 12 l0 26) (wI ((gt h 12 l0 25) - 1)) = 13 then (zb (F_X12_outOfTry l0 h) (fun r14 h14 => some (0, h14))) else (zb (F_X12_endAct l0 h) (fun r15 h15 => some (0, h15)))))) else none) else none) else none
set_option maxHeartbeats 1000000 in
theorem x_X12_unwind_0 {l0 : Int} {h : zH} {r : Int} {h' : zH} (hF : F_X12_unwind_0 l0 h = some (r, h')) : Ex 7 M_X12_unwind 0 [some (vr 12 l0), none] [] h (fun r1 h1 => r1 = none ∧ h1 = h') := by
  unfold F_X12_unwind_0 at hF
  refine ex_aload_n (q := 1) dX12_unwind_0 rfl rfl ?_
  obtain ⟨g1, hF⟩ := zg hF
  refine ex_get (q := 4) (v := vi (gt h 12 l0 25)) 25 dX12_unwind_1 rfl fl_X12_217 g1 rfl rfl ?_
  refine ex_iconst (q := 5) dX12_unwind_4 rfl ⟨by decide, by decide⟩ ?_
  refine ex_isub (q := 6) dX12_unwind_5 rfl ?_
  refine ex_istore_n (q := 7) (lo' := [some (vr 12 l0), some (vi (wI ((gt h 12 l0 25) - 1)))]) dX12_unwind_6 rfl (by decide) rfl rfl ?_
  refine ex_aload_n (q := 8) dX12_unwind_7 rfl rfl ?_
  refine ex_get (q := 11) (v := vr 68 (gt h 12 l0 26)) 26 dX12_unwind_8 rfl fl_X12_66 g1 rfl rfl ?_
  refine ex_iload_n (q := 12) dX12_unwind_11 rfl rfl ?_
  obtain ⟨g2, hF⟩ := zg hF
  obtain ⟨g3, hF⟩ := zg hF
  refine ex_iald (q := 13) dX12_unwind_12 rfl kd_68 g2 g3.1 g3.2 ?_
  by_cases c4 : gt h 68 (gt h 12 l0 26) (wI ((gt h 12 l0 25) - 1)) = 11
  · have hF := ip c4 hF
    refine ex_tsw 11 (tgt := 54) dX12_unwind_13 c4 (by decide) (by decide) rfl (by decide) ?_
    refine ex_aload_n (q := 55) dX12_unwind_54 rfl rfl ?_
    refine ex_dup (q := 56) dX12_unwind_55 rfl (fun _ z => by cases z) ?_
    refine ex_get (q := 59) (v := vi (gt h 12 l0 25)) 25 dX12_unwind_56 rfl fl_X12_217 g1 rfl rfl ?_
    refine ex_iconst (q := 60) dX12_unwind_59 rfl ⟨by decide, by decide⟩ ?_
    refine ex_isub (q := 61) dX12_unwind_60 rfl ?_
    refine ex_put (q := 64) 25 dX12_unwind_61 rfl fl_X12_217 (by decide) g1 rfl rfl (fun z => by cases z) ?_
    refine ex_aload_n (q := 65) dX12_unwind_64 rfl rfl ?_
    refine ex_get (q := 68) (v := vi (gt (pt h 12 l0 25 (wI ((gt h 12 l0 25) - 1))) 12 l0 52)) 52 dX12_unwind_65 rfl fl_X12_255 g1 rfl rfl ?_
    refine ex_iconst (q := 69) dX12_unwind_68 rfl ⟨by decide, by decide⟩ ?_
    refine ex_icmp_ne (q := 72) (tgt := 109) dX12_unwind_69 rfl (by decide) (fun c5 => ?_) (fun c5 => ?_)
    · have hF := ip c5 hF
      obtain ⟨rfl, rfl⟩ := zr hF
      exact ex_ret none rfl ⟨dX12_unwind_109, rfl⟩ ⟨rfl, rfl⟩
    · have hF := im c5 hF
      refine ex_aload_n (q := 73) dX12_unwind_72 rfl rfl ?_
      refine ex_iconst (q := 74) dX12_unwind_73 rfl ⟨by decide, by decide⟩ ?_
      refine ex_put (q := 77) 52 dX12_unwind_74 rfl fl_X12_255 (by decide) g1 rfl rfl (fun z => by cases z) ?_
      refine ex_aload_n (q := 78) dX12_unwind_77 rfl rfl ?_
      refine ex_aload_n (q := 79) dX12_unwind_78 rfl rfl ?_
      refine ex_aload_n (q := 80) dX12_unwind_79 rfl rfl ?_
      refine ex_get (q := 83) (v := vr 70 (gt (pt (pt h 12 l0 25 (wI ((gt h 12 l0 25) - 1))) 12 l0 52 0) 12 l0 28)) 28 dX12_unwind_80 rfl fl_X12_72 g1 rfl rfl ?_
      refine ex_aload_n (q := 84) dX12_unwind_83 rfl rfl ?_
      refine ex_get (q := 87) (v := vi (gt (pt (pt h 12 l0 25 (wI ((gt h 12 l0 25) - 1))) 12 l0 52 0) 12 l0 67)) 67 dX12_unwind_84 rfl fl_X12_220 g1 rfl rfl ?_
      obtain ⟨g6, hF⟩ := zg hF
      obtain ⟨g7, hF⟩ := zg hF
      refine ex_iald (q := 88) dX12_unwind_87 rfl kd_70 g6 g7.1 g7.2 ?_
      refine ex_aload_n (q := 89) dX12_unwind_88 rfl rfl ?_
      refine ex_get (q := 92) (v := vr 69 (gt (pt (pt h 12 l0 25 (wI ((gt h 12 l0 25) - 1))) 12 l0 52 0) 12 l0 27)) 27 dX12_unwind_89 rfl fl_X12_69 g1 rfl rfl ?_
      refine ex_iload_n (q := 93) dX12_unwind_92 rfl rfl ?_
      obtain ⟨g8, hF⟩ := zg hF
      refine ex_iald (q := 94) dX12_unwind_93 rfl kd_69 g8 g3.1 g3.2 ?_
      obtain ⟨r9, h9, e9, hF⟩ := zb_some hF
      refine ex_callV (d' := 2) (q := 97) (as := [vi (gt (pt (pt h 12 l0 25 (wI ((gt h 12 l0 25) - 1))) 12 l0 52 0) 70 (gt (pt (pt h 12 l0 25 (wI ((gt h 12 l0 25) - 1))) 12 l0 52 0) 12 l0 28) (gt (pt (pt h 12 l0 25 (wI ((gt h 12 l0 25) - 1))) 12 l0 52 0) 12 l0 67)), vi (gt (pt (pt h 12 l0 25 (wI ((gt h 12 l0 25) - 1))) 12 l0 52 0) 69 (gt (pt (pt h 12 l0 25 (wI ((gt h 12 l0 25) - 1))) 12 l0 52 0) 12 l0 27) (wI ((gt h 12 l0 25) - 1)))]) (st1 := [vi r9, vr 12 l0]) (r := (some (vi r9))) (h2 := h9) dX12_unwind_94 rfl (run_X12_endOf e9) mc_X12_endOf mv_X12_endOf ml_X12_297 (by decide) g1 rfl rfl (Nat.le_of_ble_eq_true rfl) rfl ?_
      refine ex_iconst (q := 98) dX12_unwind_97 rfl ⟨by decide, by decide⟩ ?_
      refine ex_iadd (q := 99) dX12_unwind_98 rfl ?_
      obtain ⟨r10, h10, e10, hF⟩ := zb_some hF
      refine ex_callV (d' := 0) (q := 102) (as := [vi (wI (r9 + 1))]) (st1 := []) (r := none) (h2 := h10) dX12_unwind_99 rfl (run_X12_goTo e10) mc_X12_goTo mv_X12_goTo ml_X12_230 (by decide) g1 rfl rfl (Nat.le_of_ble_eq_true rfl) rfl ?_
      refine ex_goto (q := 109) dX12_unwind_102 (by decide) ?_
      obtain ⟨rfl, rfl⟩ := zr hF
      exact ex_ret none rfl ⟨dX12_unwind_109, rfl⟩ ⟨rfl, rfl⟩
  · have hF := im c4 hF
    by_cases c11 : gt h 68 (gt h 12 l0 26) (wI ((gt h 12 l0 25) - 1)) = 12
    · have hF := ip c11 hF
      refine ex_tsw 12 (tgt := 40) dX12_unwind_13 c11 (by decide) (by decide) rfl (by decide) ?_
      refine ex_aload_n (q := 41) dX12_unwind_40 rfl rfl ?_
      obtain ⟨r12, h12, e12, hF⟩ := zb_some hF
      refine ex_callV (d' := 4) (q := 44) (as := []) (st1 := []) (r := none) (h2 := h12) dX12_unwind_41 rfl (run_X12_endScope e12) mc_X12_endScope mv_X12_endScope ml_X12_309 (by decide) g1 rfl rfl (Nat.le_of_ble_eq_true rfl) rfl ?_
      refine ex_goto (q := 109) dX12_unwind_44 (by decide) ?_
      obtain ⟨rfl, rfl⟩ := zr hF
      exact ex_ret none rfl ⟨dX12_unwind_109, rfl⟩ ⟨rfl, rfl⟩
    · have hF := im c11 hF
      by_cases c13 : gt h 68 (gt h 12 l0 26) (wI ((gt h 12 l0 25) - 1)) = 13
      · have hF := ip c13 hF
        refine ex_tsw 13 (tgt := 47) dX12_unwind_13 c13 (by decide) (by decide) rfl (by decide) ?_
        refine ex_aload_n (q := 48) dX12_unwind_47 rfl rfl ?_
        obtain ⟨r14, h14, e14, hF⟩ := zb_some hF
        refine ex_callV (d' := 6) (q := 51) (as := []) (st1 := []) (r := none) (h2 := h14) dX12_unwind_48 rfl (run_X12_outOfTry e14) mc_X12_outOfTry mv_X12_outOfTry ml_X12_312 (by decide) g1 rfl rfl (Nat.le_of_ble_eq_true rfl) rfl ?_
        refine ex_goto (q := 109) dX12_unwind_51 (by decide) ?_
        obtain ⟨rfl, rfl⟩ := zr hF
        exact ex_ret none rfl ⟨dX12_unwind_109, rfl⟩ ⟨rfl, rfl⟩
      · have hF := im c13 hF
        refine ex_tswD (tgt := 105) dX12_unwind_13 (by omega) (by decide) ?_
        refine ex_aload_n (q := 106) dX12_unwind_105 rfl rfl ?_
        obtain ⟨r15, h15, e15, hF⟩ := zb_some hF
        refine ex_callV (d' := 1) (q := 109) (as := []) (st1 := []) (r := none) (h2 := h15) dX12_unwind_106 rfl (run_X12_endAct e15) mc_X12_endAct mv_X12_endAct ml_X12_315 (by decide) g1 rfl rfl (Nat.le_of_ble_eq_true rfl) rfl ?_
        obtain ⟨rfl, rfl⟩ := zr hF
        exact ex_ret none rfl ⟨dX12_unwind_109, rfl⟩ ⟨rfl, rfl⟩
def F_X12_unwind (l0 : Int) (h : zH) : zO := F_X12_unwind_0 l0 h
theorem run_X12_unwind {l0 : Int} {h : zH} {r : Int} {h' : zH} (hF : F_X12_unwind l0 h = some (r, h')) : Run 7 yX12_unwind cX12_unwind 2 none [vr 12 l0] h none h' := run_of (M := M_X12_unwind) (by decide) rfl (fun z => by cases z) (Nat.le_of_ble_eq_true rfl) (x_X12_unwind_0 hF)
abbrev M_X12_run : zM := (RX12, (cX12_run, (5, ((some .int), false))))
def F_X12_run_229b (ag159 : Int → Int → Int → zH → zO) (ag229 : Int → Int → Int → Int → zH → zO) (l0 l2 l3 l4 : Int) (h : zH) : zO := if 20 ≤ l4 then (if 0 ≤ l0 then (ag159 l0 l2 (wI (l3 + 1)) (pt h 12 l0 62 (wI ((gt h 12 l0 62) + 1)))) else none) else (if 0 ≤ l0 then (if 0 ≤ gt h 12 l0 42 then (if 0 ≤ wI ((wI (20 * l3)) + l4) ∧ wI ((wI (20 * l3)) + l4) < 3600 then (if 0 ≤ gt h 12 l0 66 then (if 0 ≤ wI ((wI (20 * (gt h 12 l0 62))) + l4) ∧ wI ((wI (20 * (gt h 12 l0 62))) + l4) < 1200 then (ag229 l0 l2 l3 (wI (l4 + 1)) (pt h 92 (gt h 12 l0 66) (wI ((wI (20 * (gt h 12 l0 62))) + l4)) (gt h 82 (gt h 12 l0 42) (wI ((wI (20 * l3)) + l4))))) else none) else none) else none) else none) else none)
set_option maxHeartbeats 1000000 in
theorem x_X12_run_229b {ag159 : Int → Int → Int → zH → zO} {ag229 : Int → Int → Int → Int → zH → zO} (hag159 : ∀ (l0 l2 l3 : Int) (h : zH) (r : Int) (h' : zH), ag159 l0 l2 l3 h = some (r, h') → Ex 8 M_X12_run 159 [some (vr 12 l0), none, some (vi l2), some (vi l3), none] [] h (fun r1 h1 => r1 = some (vi r) ∧ h1 = h')) (hag229 : ∀ (l0 l2 l3 l4 : Int) (h : zH) (r : Int) (h' : zH), ag229 l0 l2 l3 l4 h = some (r, h') → Ex 8 M_X12_run 229 [some (vr 12 l0), none, some (vi l2), some (vi l3), some (vi l4)] [] h (fun r1 h1 => r1 = some (vi r) ∧ h1 = h')) {l0 l2 l3 l4 : Int} {h : zH} {r : Int} {h' : zH} (hF : F_X12_run_229b ag159 ag229 l0 l2 l3 l4 h = some (r, h')) : Ex 8 M_X12_run 229 [some (vr 12 l0), none, some (vi l2), some (vi l3), some (vi l4)] [] h (fun r1 h1 => r1 = some (vi r) ∧ h1 = h') := by
  unfold F_X12_run_229b at hF
  refine ex_iload (q := 231) dX12_run_229 rfl rfl ?_
  refine ex_bipush (q := 233) dX12_run_231 rfl (by decide) ⟨by decide, by decide⟩ ?_
  refine ex_icmp_ge (q := 236) (tgt := 269) dX12_run_233 rfl (by decide) (fun c1 => ?_) (fun c1 => ?_)
  · have hF := ip c1 hF
    refine ex_aload_n (q := 270) dX12_run_269 rfl rfl ?_
    refine ex_dup (q := 271) dX12_run_270 rfl (fun _ z => by cases z) ?_
    obtain ⟨g2, hF⟩ := zg hF
    refine ex_get (q := 274) (v := vi (gt h 12 l0 62)) 62 dX12_run_271 rfl fl_X12_362 g2 rfl rfl ?_
    refine ex_iconst (q := 275) dX12_run_274 rfl ⟨by decide, by decide⟩ ?_
    refine ex_iadd (q := 276) dX12_run_275 rfl ?_
    refine ex_put (q := 279) 62 dX12_run_276 rfl fl_X12_362 (by decide) g2 rfl rfl (fun z => by cases z) ?_
    refine ex_iinc (q := 282) (lo' := [some (vr 12 l0), none, some (vi l2), some (vi (wI (l3 + 1))), some (vi l4)]) dX12_run_279 rfl rfl (by decide) rfl rfl ?_
    refine ex_goto (q := 159) dX12_run_282 (by decide) ?_
    exact ex_forget (lo' := [some (vr 12 l0), none, some (vi l2), some (vi (wI (l3 + 1))), none]) ⟨Or.inr rfl, Or.inl rfl, Or.inr rfl, Or.inr rfl, Or.inl rfl, trivial⟩ (hag159 _ _ _ _ _ _ hF)
  · have hF := im c1 hF
    refine ex_aload_n (q := 237) dX12_run_236 rfl rfl ?_
    obtain ⟨g3, hF⟩ := zg hF
    refine ex_get (q := 240) (v := vr 92 (gt h 12 l0 66)) 66 dX12_run_237 rfl fl_X12_142 g3 rfl rfl ?_
    refine ex_bipush (q := 242) dX12_run_240 rfl (by decide) ⟨by decide, by decide⟩ ?_
    refine ex_aload_n (q := 243) dX12_run_242 rfl rfl ?_
    refine ex_get (q := 246) (v := vi (gt h 12 l0 62)) 62 dX12_run_243 rfl fl_X12_362 g3 rfl rfl ?_
    refine ex_imul (q := 247) dX12_run_246 rfl ?_
    refine ex_iload (q := 249) dX12_run_247 rfl rfl ?_
    refine ex_iadd (q := 250) dX12_run_249 rfl ?_
    refine ex_aload_n (q := 251) dX12_run_250 rfl rfl ?_
    refine ex_get (q := 254) (v := vr 82 (gt h 12 l0 42)) 42 dX12_run_251 rfl fl_X12_108 g3 rfl rfl ?_
    refine ex_bipush (q := 256) dX12_run_254 rfl (by decide) ⟨by decide, by decide⟩ ?_
    refine ex_iload_n (q := 257) dX12_run_256 rfl rfl ?_
    refine ex_imul (q := 258) dX12_run_257 rfl ?_
    refine ex_iload (q := 260) dX12_run_258 rfl rfl ?_
    refine ex_iadd (q := 261) dX12_run_260 rfl ?_
    obtain ⟨g4, hF⟩ := zg hF
    obtain ⟨g5, hF⟩ := zg hF
    refine ex_iald (q := 262) dX12_run_261 rfl kd_82 g4 g5.1 g5.2 ?_
    obtain ⟨g6, hF⟩ := zg hF
    obtain ⟨g7, hF⟩ := zg hF
    refine ex_iast (q := 263) dX12_run_262 rfl kd_92 g6 g7.1 g7.2 ?_
    refine ex_iinc (q := 266) (lo' := [some (vr 12 l0), none, some (vi l2), some (vi l3), some (vi (wI (l4 + 1)))]) dX12_run_263 rfl rfl (by decide) rfl rfl ?_
    refine ex_goto (q := 229) dX12_run_266 (by decide) ?_
    exact ex_forget (lo' := [some (vr 12 l0), none, some (vi l2), some (vi l3), some (vi (wI (l4 + 1)))]) ⟨Or.inr rfl, Or.inl rfl, Or.inr rfl, Or.inr rfl, Or.inr rfl, trivial⟩ (hag229 _ _ _ _ _ _ _ hF)
def F_X12_run_229 (ag159 : Int → Int → Int → zH → zO) : Nat → Int → Int → Int → Int → zH → zO
  | 0, _, _, _, _, _ => none
  | n + 1, l0, l2, l3, l4, h => F_X12_run_229b ag159 (F_X12_run_229 ag159 n) l0 l2 l3 l4 h
theorem x_X12_run_229 {ag159 : Int → Int → Int → zH → zO} (hag159 : ∀ (l0 l2 l3 : Int) (h : zH) (r : Int) (h' : zH), ag159 l0 l2 l3 h = some (r, h') → Ex 8 M_X12_run 159 [some (vr 12 l0), none, some (vi l2), some (vi l3), none] [] h (fun r1 h1 => r1 = some (vi r) ∧ h1 = h')) : ∀ (n : Nat) (l0 l2 l3 l4 : Int) (h : zH) (r : Int) (h' : zH), F_X12_run_229 ag159 n l0 l2 l3 l4 h = some (r, h') → Ex 8 M_X12_run 229 [some (vr 12 l0), none, some (vi l2), some (vi l3), some (vi l4)] [] h (fun r1 h1 => r1 = some (vi r) ∧ h1 = h')
  | 0, _, _, _, _, _, _, _, hF => by cases hF
  | n + 1, _, _, _, _, _, _, _, hF => x_X12_run_229b hag159 (x_X12_run_229 hag159 n) hF
def F_X12_run_159b (ag159 : Int → Int → Int → zH → zO) (l0 l2 l3 : Int) (h : zH) : zO := if 0 ≤ l0 then (if gt h 12 l0 34 ≤ l3 then (some (gt h 12 l0 54, h)) else (if 0 ≤ gt h 12 l0 40 then (if 0 ≤ l3 ∧ l3 < 180 then (if gt h 80 (gt h 12 l0 40) l3 = 0 then (ag159 l0 l2 (wI (l3 + 1)) h) else (if 0 ≤ gt h 12 l0 36 then (if gt h 76 (gt h 12 l0 36) l3 ≠ 1 then (ag159 l0 l2 (wI (l3 + 1)) h) else (if 0 ≤ gt h 12 l0 35 then (if 0 ≤ gt h 12 l0 63 then (if 0 ≤ gt h 12 l0 62 ∧ gt h 12 l0 62 < 60 then (if 0 ≤ gt (pt h 89 (gt h 12 l0 63) (gt h 12 l0 62) (gt h 75 (gt h 12 l0 35) l3)) 12 l0 64 then (if 0 ≤ gt (pt h 89 (gt h 12 l0 63) (gt h 12 l0 62) (gt h 75 (gt h 12 l0 35) l3)) 12 l0 62 ∧ gt (pt h 89 (gt h 12 l0 63) (gt h 12 l0 62) (gt h 75 (gt h 12 l0 35) l3)) 12 l0 62 < 60 then (zl (pt (pt h 89 (gt h 12 l0 63) (gt h 12 l0 62) (gt h 75 (gt h 12 l0 35) l3)) 90 (gt (pt h 89 (gt h 12 l0 63) (gt h 12 l0 62) (gt h 75 (gt h 12 l0 35) l3)) 12 l0 64) (gt (pt h 89 (gt h 12 l0 63) (gt h 12 l0 62) (gt h 75 (gt h 12 l0 35) l3)) 12 l0 62) l2) (fun k13 => if 0 ≤ gt k13 12 l0 41 then (if 0 ≤ gt k13 12 l0 65 then (if 0 ≤ gt k13 12 l0 62 ∧ gt k13 12 l0 62 < 60 then (F_X12_run_229 ag159 zF l0 l2 l3 0 (pt k13 91 (gt k13 12 l0 65) (gt k13 12 l0 62) (gt k13 81 (gt k13 12 l0 41) l3))) else none) else none) else none)) else none) else none) else none) else none) else none)) else none)) else none) else none)) else none
set_option maxHeartbeats 1000000 in
theorem x_X12_run_159b {ag159 : Int → Int → Int → zH → zO} (hag159 : ∀ (l0 l2 l3 : Int) (h : zH) (r : Int) (h' : zH), ag159 l0 l2 l3 h = some (r, h') → Ex 8 M_X12_run 159 [some (vr 12 l0), none, some (vi l2), some (vi l3), none] [] h (fun r1 h1 => r1 = some (vi r) ∧ h1 = h')) {l0 l2 l3 : Int} {h : zH} {r : Int} {h' : zH} (hF : F_X12_run_159b ag159 l0 l2 l3 h = some (r, h')) : Ex 8 M_X12_run 159 [some (vr 12 l0), none, some (vi l2), some (vi l3), none] [] h (fun r1 h1 => r1 = some (vi r) ∧ h1 = h') := by
  unfold F_X12_run_159b at hF
  refine ex_iload_n (q := 160) dX12_run_159 rfl rfl ?_
  refine ex_aload_n (q := 161) dX12_run_160 rfl rfl ?_
  obtain ⟨g1, hF⟩ := zg hF
  refine ex_get (q := 164) (v := vi (gt h 12 l0 34)) 34 dX12_run_161 rfl fl_X12_258 g1 rfl rfl ?_
  refine ex_icmp_ge (q := 167) (tgt := 285) dX12_run_164 rfl (by decide) (fun c2 => ?_) (fun c2 => ?_)
  · have hF := ip c2 hF
    refine ex_aload_n (q := 286) dX12_run_285 rfl rfl ?_
    refine ex_get (q := 289) (v := vi (gt h 12 l0 54)) 54 dX12_run_286 rfl fl_X12_267 g1 rfl rfl ?_
    obtain ⟨rfl, rfl⟩ := zr hF
    exact ex_ret (some (vi (gt h 12 l0 54))) rfl ⟨dX12_run_289, Or.inl rfl⟩ ⟨rfl, rfl⟩
  · have hF := im c2 hF
    refine ex_aload_n (q := 168) dX12_run_167 rfl rfl ?_
    refine ex_get (q := 171) (v := vr 80 (gt h 12 l0 40)) 40 dX12_run_168 rfl fl_X12_102 g1 rfl rfl ?_
    refine ex_iload_n (q := 172) dX12_run_171 rfl rfl ?_
    obtain ⟨g3, hF⟩ := zg hF
    obtain ⟨g4, hF⟩ := zg hF
    refine ex_bald (q := 173) dX12_run_172 rfl kd_80 g3 g4.1 g4.2 ?_
    refine ex_if_eq (q := 176) (tgt := 279) dX12_run_173 rfl (by decide) (fun c5 => ?_) (fun c5 => ?_)
    · have hF := ip c5 hF
      refine ex_iinc (q := 282) (lo' := [some (vr 12 l0), none, some (vi l2), some (vi (wI (l3 + 1))), none]) dX12_run_279 rfl rfl (by decide) rfl rfl ?_
      refine ex_goto (q := 159) dX12_run_282 (by decide) ?_
      exact ex_forget (lo' := [some (vr 12 l0), none, some (vi l2), some (vi (wI (l3 + 1))), none]) ⟨Or.inr rfl, Or.inl rfl, Or.inr rfl, Or.inr rfl, Or.inl rfl, trivial⟩ (hag159 _ _ _ _ _ _ hF)
    · have hF := im c5 hF
      refine ex_aload_n (q := 177) dX12_run_176 rfl rfl ?_
      refine ex_get (q := 180) (v := vr 76 (gt h 12 l0 36)) 36 dX12_run_177 rfl fl_X12_90 g1 rfl rfl ?_
      refine ex_iload_n (q := 181) dX12_run_180 rfl rfl ?_
      obtain ⟨g6, hF⟩ := zg hF
      refine ex_iald (q := 182) dX12_run_181 rfl kd_76 g6 g4.1 g4.2 ?_
      refine ex_iconst (q := 183) dX12_run_182 rfl ⟨by decide, by decide⟩ ?_
      refine ex_icmp_ne (q := 186) (tgt := 279) dX12_run_183 rfl (by decide) (fun c7 => ?_) (fun c7 => ?_)
      · have hF := ip c7 hF
        refine ex_iinc (q := 282) (lo' := [some (vr 12 l0), none, some (vi l2), some (vi (wI (l3 + 1))), none]) dX12_run_279 rfl rfl (by decide) rfl rfl ?_
        refine ex_goto (q := 159) dX12_run_282 (by decide) ?_
        exact ex_forget (lo' := [some (vr 12 l0), none, some (vi l2), some (vi (wI (l3 + 1))), none]) ⟨Or.inr rfl, Or.inl rfl, Or.inr rfl, Or.inr rfl, Or.inl rfl, trivial⟩ (hag159 _ _ _ _ _ _ hF)
      · have hF := im c7 hF
        refine ex_aload_n (q := 187) dX12_run_186 rfl rfl ?_
        refine ex_get (q := 190) (v := vr 89 (gt h 12 l0 63)) 63 dX12_run_187 rfl fl_X12_133 g1 rfl rfl ?_
        refine ex_aload_n (q := 191) dX12_run_190 rfl rfl ?_
        refine ex_get (q := 194) (v := vi (gt h 12 l0 62)) 62 dX12_run_191 rfl fl_X12_362 g1 rfl rfl ?_
        refine ex_aload_n (q := 195) dX12_run_194 rfl rfl ?_
        refine ex_get (q := 198) (v := vr 75 (gt h 12 l0 35)) 35 dX12_run_195 rfl fl_X12_87 g1 rfl rfl ?_
        refine ex_iload_n (q := 199) dX12_run_198 rfl rfl ?_
        obtain ⟨g8, hF⟩ := zg hF
        refine ex_iald (q := 200) dX12_run_199 rfl kd_75 g8 g4.1 g4.2 ?_
        obtain ⟨g9, hF⟩ := zg hF
        obtain ⟨g10, hF⟩ := zg hF
        refine ex_iast (q := 201) dX12_run_200 rfl kd_89 g9 g10.1 g10.2 ?_
        refine ex_aload_n (q := 202) dX12_run_201 rfl rfl ?_
        refine ex_get (q := 205) (v := vr 90 (gt (pt h 89 (gt h 12 l0 63) (gt h 12 l0 62) (gt h 75 (gt h 12 l0 35) l3)) 12 l0 64)) 64 dX12_run_202 rfl fl_X12_136 g1 rfl rfl ?_
        refine ex_aload_n (q := 206) dX12_run_205 rfl rfl ?_
        refine ex_get (q := 209) (v := vi (gt (pt h 89 (gt h 12 l0 63) (gt h 12 l0 62) (gt h 75 (gt h 12 l0 35) l3)) 12 l0 62)) 62 dX12_run_206 rfl fl_X12_362 g1 rfl rfl ?_
        refine ex_iload_n (q := 210) dX12_run_209 rfl rfl ?_
        obtain ⟨g11, hF⟩ := zg hF
        obtain ⟨g12, hF⟩ := zg hF
        refine ex_iast (q := 211) dX12_run_210 rfl kd_90 g11 g12.1 g12.2 ?_
        have hF := zl_e hF
        generalize pt (pt h 89 (gt h 12 l0 63) (gt h 12 l0 62) (gt h 75 (gt h 12 l0 35) l3)) 90 (gt (pt h 89 (gt h 12 l0 63) (gt h 12 l0 62) (gt h 75 (gt h 12 l0 35) l3)) 12 l0 64) (gt (pt h 89 (gt h 12 l0 63) (gt h 12 l0 62) (gt h 75 (gt h 12 l0 35) l3)) 12 l0 62) l2 = k13 at hF ⊢
        refine ex_aload_n (q := 212) dX12_run_211 rfl rfl ?_
        refine ex_get (q := 215) (v := vr 91 (gt k13 12 l0 65)) 65 dX12_run_212 rfl fl_X12_139 g1 rfl rfl ?_
        refine ex_aload_n (q := 216) dX12_run_215 rfl rfl ?_
        refine ex_get (q := 219) (v := vi (gt k13 12 l0 62)) 62 dX12_run_216 rfl fl_X12_362 g1 rfl rfl ?_
        refine ex_aload_n (q := 220) dX12_run_219 rfl rfl ?_
        refine ex_get (q := 223) (v := vr 81 (gt k13 12 l0 41)) 41 dX12_run_220 rfl fl_X12_105 g1 rfl rfl ?_
        refine ex_iload_n (q := 224) dX12_run_223 rfl rfl ?_
        obtain ⟨g14, hF⟩ := zg hF
        refine ex_iald (q := 225) dX12_run_224 rfl kd_81 g14 g4.1 g4.2 ?_
        obtain ⟨g15, hF⟩ := zg hF
        obtain ⟨g16, hF⟩ := zg hF
        refine ex_iast (q := 226) dX12_run_225 rfl kd_91 g15 g16.1 g16.2 ?_
        refine ex_iconst (q := 227) dX12_run_226 rfl ⟨by decide, by decide⟩ ?_
        refine ex_istore (q := 229) (lo' := [some (vr 12 l0), none, some (vi l2), some (vi l3), some (vi 0)]) dX12_run_227 rfl (by decide) rfl rfl ?_
        exact ex_forget (lo' := [some (vr 12 l0), none, some (vi l2), some (vi l3), some (vi 0)]) ⟨Or.inr rfl, Or.inl rfl, Or.inr rfl, Or.inr rfl, Or.inr rfl, trivial⟩ (x_X12_run_229 hag159 _ _ _ _ _ _ _ _ hF)
def F_X12_run_159 : Nat → Int → Int → Int → zH → zO
  | 0, _, _, _, _ => none
  | n + 1, l0, l2, l3, h => F_X12_run_159b (F_X12_run_159 n) l0 l2 l3 h
theorem x_X12_run_159 : ∀ (n : Nat) (l0 l2 l3 : Int) (h : zH) (r : Int) (h' : zH), F_X12_run_159 n l0 l2 l3 h = some (r, h') → Ex 8 M_X12_run 159 [some (vr 12 l0), none, some (vi l2), some (vi l3), none] [] h (fun r1 h1 => r1 = some (vi r) ∧ h1 = h')
  | 0, _, _, _, _, _, _, hF => by cases hF
  | n + 1, _, _, _, _, _, _, hF => x_X12_run_159b (x_X12_run_159 n) hF
def F_X12_run_129b (ag129 : Int → Int → zH → zO) (l0 l2 : Int) (h : zH) : zO := if 0 ≤ l0 then (if gt h 12 l0 60 ≠ 0 then (F_X12_run_159 zF l0 l2 0 h) else (if gt h 12 l0 52 ≠ 0 then (zb (F_X12_unwind l0 h) (fun r4 h4 => ag129 l0 l2 h4)) else (zb (F_X12_goOn l0 h) (fun r5 h5 => ag129 l0 l2 h5)))) else none
set_option maxHeartbeats 1000000 in
theorem x_X12_run_129b {ag129 : Int → Int → zH → zO} (hag129 : ∀ (l0 l2 : Int) (h : zH) (r : Int) (h' : zH), ag129 l0 l2 h = some (r, h') → Ex 8 M_X12_run 129 [some (vr 12 l0), none, some (vi l2), none, none] [] h (fun r1 h1 => r1 = some (vi r) ∧ h1 = h')) {l0 l2 : Int} {h : zH} {r : Int} {h' : zH} (hF : F_X12_run_129b ag129 l0 l2 h = some (r, h')) : Ex 8 M_X12_run 129 [some (vr 12 l0), none, some (vi l2), none, none] [] h (fun r1 h1 => r1 = some (vi r) ∧ h1 = h') := by
  unfold F_X12_run_129b at hF
  refine ex_aload_n (q := 130) dX12_run_129 rfl rfl ?_
  obtain ⟨g1, hF⟩ := zg hF
  refine ex_get (q := 133) (v := vi (gt h 12 l0 60)) 60 dX12_run_130 rfl fl_X12_270 g1 rfl rfl ?_
  refine ex_if_ne (q := 136) (tgt := 157) dX12_run_133 rfl (by decide) (fun c2 => ?_) (fun c2 => ?_)
  · have hF := ip c2 hF
    refine ex_iconst (q := 158) dX12_run_157 rfl ⟨by decide, by decide⟩ ?_
    refine ex_istore_n (q := 159) (lo' := [some (vr 12 l0), none, some (vi l2), some (vi 0), none]) dX12_run_158 rfl (by decide) rfl rfl ?_
    exact ex_forget (lo' := [some (vr 12 l0), none, some (vi l2), some (vi 0), none]) ⟨Or.inr rfl, Or.inl rfl, Or.inr rfl, Or.inr rfl, Or.inl rfl, trivial⟩ (x_X12_run_159 _ _ _ _ _ _ _ hF)
  · have hF := im c2 hF
    refine ex_aload_n (q := 137) dX12_run_136 rfl rfl ?_
    refine ex_get (q := 140) (v := vi (gt h 12 l0 52)) 52 dX12_run_137 rfl fl_X12_255 g1 rfl rfl ?_
    refine ex_if_ne (q := 143) (tgt := 150) dX12_run_140 rfl (by decide) (fun c3 => ?_) (fun c3 => ?_)
    · have hF := ip c3 hF
      refine ex_aload_n (q := 151) dX12_run_150 rfl rfl ?_
      obtain ⟨r4, h4, e4, hF⟩ := zb_some hF
      refine ex_callV (d' := 7) (q := 154) (as := []) (st1 := []) (r := none) (h2 := h4) dX12_run_151 rfl (run_X12_unwind e4) mc_X12_unwind mv_X12_unwind ml_X12_359 (by decide) g1 rfl rfl (Nat.le_of_ble_eq_true rfl) rfl ?_
      refine ex_goto (q := 129) dX12_run_154 (by decide) ?_
      exact ex_forget (lo' := [some (vr 12 l0), none, some (vi l2), none, none]) ⟨Or.inr rfl, Or.inl rfl, Or.inr rfl, Or.inl rfl, Or.inl rfl, trivial⟩ (hag129 _ _ _ _ _ hF)
    · have hF := im c3 hF
      refine ex_aload_n (q := 144) dX12_run_143 rfl rfl ?_
      obtain ⟨r5, h5, e5, hF⟩ := zb_some hF
      refine ex_callV (d' := 7) (q := 147) (as := []) (st1 := []) (r := none) (h2 := h5) dX12_run_144 rfl (run_X12_goOn e5) mc_X12_goOn mv_X12_goOn ml_X12_356 (by decide) g1 rfl rfl (Nat.le_of_ble_eq_true rfl) rfl ?_
      refine ex_goto (q := 129) dX12_run_147 (by decide) ?_
      exact ex_forget (lo' := [some (vr 12 l0), none, some (vi l2), none, none]) ⟨Or.inr rfl, Or.inl rfl, Or.inr rfl, Or.inl rfl, Or.inl rfl, trivial⟩ (hag129 _ _ _ _ _ hF)
def F_X12_run_129 : Nat → Int → Int → zH → zO
  | 0, _, _, _ => none
  | n + 1, l0, l2, h => F_X12_run_129b (F_X12_run_129 n) l0 l2 h
theorem x_X12_run_129 : ∀ (n : Nat) (l0 l2 : Int) (h : zH) (r : Int) (h' : zH), F_X12_run_129 n l0 l2 h = some (r, h') → Ex 8 M_X12_run 129 [some (vr 12 l0), none, some (vi l2), none, none] [] h (fun r1 h1 => r1 = some (vi r) ∧ h1 = h')
  | 0, _, _, _, _, _, hF => by cases hF
  | n + 1, _, _, _, _, _, hF => x_X12_run_129b (x_X12_run_129 n) hF
def F_X12_run_0 (l0 l1 l2 : Int) (h : zH) : zO := if 0 ≤ l0 then (zb (F_X12_noAct l0 l1 h) (fun r1 h1 => if r1 ≠ 0 then (some ((-101), h1)) else (zb (F_X12_in l2 0 7 h1) (fun r4 h4 => if r4 ≠ 0 then (zb (F_X12_judge l0 l1 h4) (fun r6 h6 => if gt h6 12 l0 21 ≤ 0 then (zl (pt (pt (pt (pt (pt (pt (pt (pt h6 12 l0 25 0) 12 l0 33 0) 12 l0 34 0) 12 l0 43 0) 12 l0 44 0) 12 l0 45 0) 12 l0 52 0) 12 l0 53 (-1)) (fun k8 => zl (pt (pt (pt (pt (pt (pt (pt (pt k8 12 l0 54 0) 12 l0 55 0) 12 l0 56 0) 12 l0 57 0) 12 l0 58 0) 12 l0 59 (-1)) 12 l0 60 0) 12 l0 61 l2) (fun k9 => zb (F_X12_beginAct l0 l1 (-1) k9) (fun r10 h10 => zb (F_X12_goTo l0 0 h10) (fun r11 h11 => F_X12_run_129 zF l0 l2 h11))))) else (some ((-103), h6)))) else (some ((-101), h4)))))) else none
set_option maxHeartbeats 1000000 in
theorem x_X12_run_0 {l0 l1 l2 : Int} {h : zH} {r : Int} {h' : zH} (hF : F_X12_run_0 l0 l1 l2 h = some (r, h')) : Ex 8 M_X12_run 0 [some (vr 12 l0), some (vi l1), some (vi l2), none, none] [] h (fun r1 h1 => r1 = some (vi r) ∧ h1 = h') := by
  unfold F_X12_run_0 at hF
  refine ex_aload_n (q := 1) dX12_run_0 rfl rfl ?_
  refine ex_iload_n (q := 2) dX12_run_1 rfl rfl ?_
  obtain ⟨g2, hF⟩ := zg hF
  obtain ⟨r1, h1, e1, hF⟩ := zb_some hF
  refine ex_callV (d' := 1) (q := 5) (as := [vi l1]) (st1 := [vi r1]) (r := (some (vi r1))) (h2 := h1) dX12_run_2 rfl (run_X12_noAct e1) mc_X12_noAct mv_X12_noAct ml_X12_180 (by decide) g2 rfl rfl (Nat.le_of_ble_eq_true rfl) rfl ?_
  refine ex_if_ne (q := 8) (tgt := 20) dX12_run_5 rfl (by decide) (fun c3 => ?_) (fun c3 => ?_)
  · have hF := ip c3 hF
    refine ex_bipush (q := 22) dX12_run_20 rfl (by decide) ⟨by decide, by decide⟩ ?_
    obtain ⟨rfl, rfl⟩ := zr hF
    exact ex_ret (some (vi (-101))) rfl ⟨dX12_run_22, Or.inl rfl⟩ ⟨rfl, rfl⟩
  · have hF := im c3 hF
    refine ex_iload_n (q := 9) dX12_run_8 rfl rfl ?_
    refine ex_i2l (q := 10) dX12_run_9 rfl ?_
    refine ex_lconst (q := 11) 0 dX12_run_10 rfl rfl ⟨by decide, by decide⟩ ?_
    refine ex_ldc2 (q := 14) 7 dX12_run_11 rfl (zTbl_i 1213 (by decide +kernel) (by decide +kernel)) rfl ⟨by decide, by decide⟩ ?_
    obtain ⟨r4, h4, e4, hF⟩ := zb_some hF
    refine ex_callS (d' := 0) (q := 17) (as := [vl l2, vl 0, vl 7]) (st1 := [vi r4]) (r := (some (vi r4))) (h2 := h4) dX12_run_14 rfl (run_X12_in e4) mc_X12_in ms_X12_in ml_X12_147 (by decide) rfl rfl (Nat.le_of_ble_eq_true rfl) rfl ?_
    refine ex_if_ne (q := 20) (tgt := 23) dX12_run_17 rfl (by decide) (fun c5 => ?_) (fun c5 => ?_)
    · have hF := ip c5 hF
      refine ex_aload_n (q := 24) dX12_run_23 rfl rfl ?_
      refine ex_iload_n (q := 25) dX12_run_24 rfl rfl ?_
      obtain ⟨r6, h6, e6, hF⟩ := zb_some hF
      refine ex_callV (d' := 3) (q := 28) (as := [vi l1]) (st1 := []) (r := none) (h2 := h6) dX12_run_25 rfl (run_X12_judge e6) mc_X12_judge mv_X12_judge ml_X12_209 (by decide) g2 rfl rfl (Nat.le_of_ble_eq_true rfl) rfl ?_
      refine ex_aload_n (q := 29) dX12_run_28 rfl rfl ?_
      refine ex_get (q := 32) (v := vi (gt h6 12 l0 21)) 21 dX12_run_29 rfl fl_X12_196 g2 rfl rfl ?_
      refine ex_if_le (q := 35) (tgt := 38) dX12_run_32 rfl (by decide) (fun c7 => ?_) (fun c7 => ?_)
      · have hF := ip c7 hF
        refine ex_aload_n (q := 39) dX12_run_38 rfl rfl ?_
        refine ex_iconst (q := 40) dX12_run_39 rfl ⟨by decide, by decide⟩ ?_
        refine ex_put (q := 43) 25 dX12_run_40 rfl fl_X12_217 (by decide) g2 rfl rfl (fun z => by cases z) ?_
        refine ex_aload_n (q := 44) dX12_run_43 rfl rfl ?_
        refine ex_iconst (q := 45) dX12_run_44 rfl ⟨by decide, by decide⟩ ?_
        refine ex_put (q := 48) 33 dX12_run_45 rfl fl_X12_223 (by decide) g2 rfl rfl (fun z => by cases z) ?_
        refine ex_aload_n (q := 49) dX12_run_48 rfl rfl ?_
        refine ex_iconst (q := 50) dX12_run_49 rfl ⟨by decide, by decide⟩ ?_
        refine ex_put (q := 53) 34 dX12_run_50 rfl fl_X12_258 (by decide) g2 rfl rfl (fun z => by cases z) ?_
        refine ex_aload_n (q := 54) dX12_run_53 rfl rfl ?_
        refine ex_iconst (q := 55) dX12_run_54 rfl ⟨by decide, by decide⟩ ?_
        refine ex_put (q := 58) 43 dX12_run_55 rfl fl_X12_324 (by decide) g2 rfl rfl (fun z => by cases z) ?_
        refine ex_aload_n (q := 59) dX12_run_58 rfl rfl ?_
        refine ex_iconst (q := 60) dX12_run_59 rfl ⟨by decide, by decide⟩ ?_
        refine ex_put (q := 63) 44 dX12_run_60 rfl fl_X12_236 (by decide) g2 rfl rfl (fun z => by cases z) ?_
        refine ex_aload_n (q := 64) dX12_run_63 rfl rfl ?_
        refine ex_iconst (q := 65) dX12_run_64 rfl ⟨by decide, by decide⟩ ?_
        refine ex_put (q := 68) 45 dX12_run_65 rfl fl_X12_245 (by decide) g2 rfl rfl (fun z => by cases z) ?_
        refine ex_aload_n (q := 69) dX12_run_68 rfl rfl ?_
        refine ex_iconst (q := 70) dX12_run_69 rfl ⟨by decide, by decide⟩ ?_
        refine ex_put (q := 73) 52 dX12_run_70 rfl fl_X12_255 (by decide) g2 rfl rfl (fun z => by cases z) ?_
        refine ex_aload_n (q := 74) dX12_run_73 rfl rfl ?_
        refine ex_iconst (q := 75) dX12_run_74 rfl ⟨by decide, by decide⟩ ?_
        refine ex_put (q := 78) 53 dX12_run_75 rfl fl_X12_252 (by decide) g2 rfl rfl (fun z => by cases z) ?_
        have hF := zl_e hF
        generalize pt (pt (pt (pt (pt (pt (pt (pt h6 12 l0 25 0) 12 l0 33 0) 12 l0 34 0) 12 l0 43 0) 12 l0 44 0) 12 l0 45 0) 12 l0 52 0) 12 l0 53 (-1) = k8 at hF ⊢
        refine ex_aload_n (q := 79) dX12_run_78 rfl rfl ?_
        refine ex_iconst (q := 80) dX12_run_79 rfl ⟨by decide, by decide⟩ ?_
        refine ex_put (q := 83) 54 dX12_run_80 rfl fl_X12_267 (by decide) g2 rfl rfl (fun z => by cases z) ?_
        refine ex_aload_n (q := 84) dX12_run_83 rfl rfl ?_
        refine ex_iconst (q := 85) dX12_run_84 rfl ⟨by decide, by decide⟩ ?_
        refine ex_put (q := 88) 55 dX12_run_85 rfl fl_X12_239 (by decide) g2 rfl rfl (fun z => by cases z) ?_
        refine ex_aload_n (q := 89) dX12_run_88 rfl rfl ?_
        refine ex_iconst (q := 90) dX12_run_89 rfl ⟨by decide, by decide⟩ ?_
        refine ex_put (q := 93) 56 dX12_run_90 rfl fl_X12_327 (by decide) g2 rfl rfl (fun z => by cases z) ?_
        refine ex_aload_n (q := 94) dX12_run_93 rfl rfl ?_
        refine ex_iconst (q := 95) dX12_run_94 rfl ⟨by decide, by decide⟩ ?_
        refine ex_put (q := 98) 57 dX12_run_95 rfl fl_X12_281 (by decide) g2 rfl rfl (fun z => by cases z) ?_
        refine ex_aload_n (q := 99) dX12_run_98 rfl rfl ?_
        refine ex_iconst (q := 100) dX12_run_99 rfl ⟨by decide, by decide⟩ ?_
        refine ex_put (q := 103) 58 dX12_run_100 rfl fl_X12_300 (by decide) g2 rfl rfl (fun z => by cases z) ?_
        refine ex_aload_n (q := 104) dX12_run_103 rfl rfl ?_
        refine ex_iconst (q := 105) dX12_run_104 rfl ⟨by decide, by decide⟩ ?_
        refine ex_put (q := 108) 59 dX12_run_105 rfl fl_X12_129 (by decide) g2 rfl rfl (fun z => by cases z) ?_
        refine ex_aload_n (q := 109) dX12_run_108 rfl rfl ?_
        refine ex_iconst (q := 110) dX12_run_109 rfl ⟨by decide, by decide⟩ ?_
        refine ex_put (q := 113) 60 dX12_run_110 rfl fl_X12_270 (by decide) g2 rfl rfl (fun _ => by decide) ?_
        refine ex_aload_n (q := 114) dX12_run_113 rfl rfl ?_
        refine ex_iload_n (q := 115) dX12_run_114 rfl rfl ?_
        refine ex_put (q := 118) 61 dX12_run_115 rfl fl_X12_261 (by decide) g2 rfl rfl (fun z => by cases z) ?_
        have hF := zl_e hF
        generalize pt (pt (pt (pt (pt (pt (pt (pt k8 12 l0 54 0) 12 l0 55 0) 12 l0 56 0) 12 l0 57 0) 12 l0 58 0) 12 l0 59 (-1)) 12 l0 60 0) 12 l0 61 l2 = k9 at hF ⊢
        refine ex_aload_n (q := 119) dX12_run_118 rfl rfl ?_
        refine ex_iload_n (q := 120) dX12_run_119 rfl rfl ?_
        refine ex_iconst (q := 121) dX12_run_120 rfl ⟨by decide, by decide⟩ ?_
        obtain ⟨r10, h10, e10, hF⟩ := zb_some hF
        refine ex_callV (d' := 2) (q := 124) (as := [vi l1, vi (-1)]) (st1 := []) (r := none) (h2 := h10) dX12_run_121 rfl (run_X12_beginAct e10) mc_X12_beginAct mv_X12_beginAct ml_X12_343 (by decide) g2 rfl rfl (Nat.le_of_ble_eq_true rfl) rfl ?_
        refine ex_aload_n (q := 125) dX12_run_124 rfl rfl ?_
        refine ex_iconst (q := 126) dX12_run_125 rfl ⟨by decide, by decide⟩ ?_
        obtain ⟨r11, h11, e11, hF⟩ := zb_some hF
        refine ex_callV (d' := 0) (q := 129) (as := [vi 0]) (st1 := []) (r := none) (h2 := h11) dX12_run_126 rfl (run_X12_goTo e11) mc_X12_goTo mv_X12_goTo ml_X12_230 (by decide) g2 rfl rfl (Nat.le_of_ble_eq_true rfl) rfl ?_
        exact ex_forget (lo' := [some (vr 12 l0), none, some (vi l2), none, none]) ⟨Or.inr rfl, Or.inl rfl, Or.inr rfl, Or.inl rfl, Or.inl rfl, trivial⟩ (x_X12_run_129 _ _ _ _ _ _ hF)
      · have hF := im c7 hF
        refine ex_bipush (q := 37) dX12_run_35 rfl (by decide) ⟨by decide, by decide⟩ ?_
        obtain ⟨rfl, rfl⟩ := zr hF
        exact ex_ret (some (vi (-103))) rfl ⟨dX12_run_37, Or.inl rfl⟩ ⟨rfl, rfl⟩
    · have hF := im c5 hF
      refine ex_bipush (q := 22) dX12_run_20 rfl (by decide) ⟨by decide, by decide⟩ ?_
      obtain ⟨rfl, rfl⟩ := zr hF
      exact ex_ret (some (vi (-101))) rfl ⟨dX12_run_22, Or.inl rfl⟩ ⟨rfl, rfl⟩
def F_X12_run (l0 l1 l2 : Int) (h : zH) : zO := F_X12_run_0 l0 l1 l2 h
theorem run_X12_run {l0 l1 l2 : Int} {h : zH} {r : Int} {h' : zH} (hF : F_X12_run l0 l1 l2 h = some (r, h')) : Run 8 yX12_run cX12_run 5 (some .int) [vr 12 l0, vi l1, vi l2] h (some (vi r)) h' := run_of (M := M_X12_run) (by decide) rfl (fun z => by cases z) (Nat.le_of_ble_eq_true rfl) (x_X12_run_0 hF)
abbrev M_X12_ran : zM := (RX12, (cX12_ran, (2, ((some .int), false))))
def F_X12_ran_0 (l0 l1 : Int) (h : zH) : zO := if l1 = 0 then (if 0 ≤ l0 then (some (gt h 12 l0 54, h)) else none) else (if l1 = 1 then (if 0 ≤ l0 then (some (gt h 12 l0 55, h)) else none) else (if l1 = 2 then (if 0 ≤ l0 then (some (gt h 12 l0 45, h)) else none) else (if l1 = 3 then (if 0 ≤ l0 then (some (gt h 12 l0 56, h)) else none) else (if l1 = 4 then (if 0 ≤ l0 then (some (gt h 12 l0 44, h)) else none) else (if l1 = 5 then (if 0 ≤ l0 then (some (gt h 12 l0 58, h)) else none) else (if l1 = 6 then (if 0 ≤ l0 then (some (gt h 12 l0 59, h)) else none) else (some ((-102), h))))))))
set_option maxHeartbeats 1000000 in
theorem x_X12_ran_0 {l0 l1 : Int} {h : zH} {r : Int} {h' : zH} (hF : F_X12_ran_0 l0 l1 h = some (r, h')) : Ex 0 M_X12_ran 0 [some (vr 12 l0), some (vi l1)] [] h (fun r1 h1 => r1 = some (vi r) ∧ h1 = h') := by
  unfold F_X12_ran_0 at hF
  refine ex_iload_n (q := 1) dX12_ran_0 rfl rfl ?_
  by_cases c1 : l1 = 0
  · have hF := ip c1 hF
    refine ex_tsw 0 (tgt := 44) dX12_ran_1 c1 (by decide) (by decide) rfl (by decide) ?_
    refine ex_aload_n (q := 45) dX12_ran_44 rfl rfl ?_
    obtain ⟨g2, hF⟩ := zg hF
    refine ex_get (q := 48) (v := vi (gt h 12 l0 54)) 54 dX12_ran_45 rfl fl_X12_267 g2 rfl rfl ?_
    obtain ⟨rfl, rfl⟩ := zr hF
    exact ex_ret (some (vi (gt h 12 l0 54))) rfl ⟨dX12_ran_48, Or.inl rfl⟩ ⟨rfl, rfl⟩
  · have hF := im c1 hF
    by_cases c3 : l1 = 1
    · have hF := ip c3 hF
      refine ex_tsw 1 (tgt := 49) dX12_ran_1 c3 (by decide) (by decide) rfl (by decide) ?_
      refine ex_aload_n (q := 50) dX12_ran_49 rfl rfl ?_
      obtain ⟨g4, hF⟩ := zg hF
      refine ex_get (q := 53) (v := vi (gt h 12 l0 55)) 55 dX12_ran_50 rfl fl_X12_239 g4 rfl rfl ?_
      obtain ⟨rfl, rfl⟩ := zr hF
      exact ex_ret (some (vi (gt h 12 l0 55))) rfl ⟨dX12_ran_53, Or.inl rfl⟩ ⟨rfl, rfl⟩
    · have hF := im c3 hF
      by_cases c5 : l1 = 2
      · have hF := ip c5 hF
        refine ex_tsw 2 (tgt := 54) dX12_ran_1 c5 (by decide) (by decide) rfl (by decide) ?_
        refine ex_aload_n (q := 55) dX12_ran_54 rfl rfl ?_
        obtain ⟨g6, hF⟩ := zg hF
        refine ex_get (q := 58) (v := vi (gt h 12 l0 45)) 45 dX12_ran_55 rfl fl_X12_245 g6 rfl rfl ?_
        obtain ⟨rfl, rfl⟩ := zr hF
        exact ex_ret (some (vi (gt h 12 l0 45))) rfl ⟨dX12_ran_58, Or.inl rfl⟩ ⟨rfl, rfl⟩
      · have hF := im c5 hF
        by_cases c7 : l1 = 3
        · have hF := ip c7 hF
          refine ex_tsw 3 (tgt := 59) dX12_ran_1 c7 (by decide) (by decide) rfl (by decide) ?_
          refine ex_aload_n (q := 60) dX12_ran_59 rfl rfl ?_
          obtain ⟨g8, hF⟩ := zg hF
          refine ex_get (q := 63) (v := vi (gt h 12 l0 56)) 56 dX12_ran_60 rfl fl_X12_327 g8 rfl rfl ?_
          obtain ⟨rfl, rfl⟩ := zr hF
          exact ex_ret (some (vi (gt h 12 l0 56))) rfl ⟨dX12_ran_63, Or.inl rfl⟩ ⟨rfl, rfl⟩
        · have hF := im c7 hF
          by_cases c9 : l1 = 4
          · have hF := ip c9 hF
            refine ex_tsw 4 (tgt := 64) dX12_ran_1 c9 (by decide) (by decide) rfl (by decide) ?_
            refine ex_aload_n (q := 65) dX12_ran_64 rfl rfl ?_
            obtain ⟨g10, hF⟩ := zg hF
            refine ex_get (q := 68) (v := vi (gt h 12 l0 44)) 44 dX12_ran_65 rfl fl_X12_236 g10 rfl rfl ?_
            obtain ⟨rfl, rfl⟩ := zr hF
            exact ex_ret (some (vi (gt h 12 l0 44))) rfl ⟨dX12_ran_68, Or.inl rfl⟩ ⟨rfl, rfl⟩
          · have hF := im c9 hF
            by_cases c11 : l1 = 5
            · have hF := ip c11 hF
              refine ex_tsw 5 (tgt := 69) dX12_ran_1 c11 (by decide) (by decide) rfl (by decide) ?_
              refine ex_aload_n (q := 70) dX12_ran_69 rfl rfl ?_
              obtain ⟨g12, hF⟩ := zg hF
              refine ex_get (q := 73) (v := vi (gt h 12 l0 58)) 58 dX12_ran_70 rfl fl_X12_300 g12 rfl rfl ?_
              obtain ⟨rfl, rfl⟩ := zr hF
              exact ex_ret (some (vi (gt h 12 l0 58))) rfl ⟨dX12_ran_73, Or.inl rfl⟩ ⟨rfl, rfl⟩
            · have hF := im c11 hF
              by_cases c13 : l1 = 6
              · have hF := ip c13 hF
                refine ex_tsw 6 (tgt := 74) dX12_ran_1 c13 (by decide) (by decide) rfl (by decide) ?_
                refine ex_aload_n (q := 75) dX12_ran_74 rfl rfl ?_
                obtain ⟨g14, hF⟩ := zg hF
                refine ex_get (q := 78) (v := vi (gt h 12 l0 59)) 59 dX12_ran_75 rfl fl_X12_129 g14 rfl rfl ?_
                obtain ⟨rfl, rfl⟩ := zr hF
                exact ex_ret (some (vi (gt h 12 l0 59))) rfl ⟨dX12_ran_78, Or.inl rfl⟩ ⟨rfl, rfl⟩
              · have hF := im c13 hF
                refine ex_tswD (tgt := 79) dX12_ran_1 (by omega) (by decide) ?_
                refine ex_bipush (q := 81) dX12_ran_79 rfl (by decide) ⟨by decide, by decide⟩ ?_
                obtain ⟨rfl, rfl⟩ := zr hF
                exact ex_ret (some (vi (-102))) rfl ⟨dX12_ran_81, Or.inl rfl⟩ ⟨rfl, rfl⟩
def F_X12_ran (l0 l1 : Int) (h : zH) : zO := F_X12_ran_0 l0 l1 h
theorem run_X12_ran {l0 l1 : Int} {h : zH} {r : Int} {h' : zH} (hF : F_X12_ran l0 l1 h = some (r, h')) : Run 0 yX12_ran cX12_ran 2 (some .int) [vr 12 l0, vi l1] h (some (vi r)) h' := run_of (M := M_X12_ran) (by decide) rfl (fun z => by cases z) (Nat.le_of_ble_eq_true rfl) (x_X12_ran_0 hF)
abbrev M_X12_failure : zM := (RX12, (cX12_failure, (3, ((some .int), false))))
def F_X12_failure_0 (l0 l1 l2 : Int) (h : zH) : zO := if 0 ≤ l0 then (zb (F_X12_in l1 0 (wI ((gt h 12 l0 45) - 1)) h) (fun r2 h2 => if r2 ≠ 0 then (if l2 = 0 then (if 0 ≤ gt h2 12 l0 46 then (if 0 ≤ l1 ∧ l1 < 16 then (some (gt h2 83 (gt h2 12 l0 46) l1, h2)) else none) else none) else (if l2 = 1 then (if 0 ≤ gt h2 12 l0 47 then (if 0 ≤ l1 ∧ l1 < 16 then (some (gt h2 84 (gt h2 12 l0 47) l1, h2)) else none) else none) else (if l2 = 2 then (if 0 ≤ gt h2 12 l0 48 then (if 0 ≤ l1 ∧ l1 < 16 then (some (gt h2 85 (gt h2 12 l0 48) l1, h2)) else none) else none) else (if l2 = 3 then (if 0 ≤ gt h2 12 l0 49 then (if 0 ≤ l1 ∧ l1 < 16 then (some (gt h2 86 (gt h2 12 l0 49) l1, h2)) else none) else none) else (if l2 = 4 then (if 0 ≤ gt h2 12 l0 50 then (if 0 ≤ l1 ∧ l1 < 16 then (some (gt h2 87 (gt h2 12 l0 50) l1, h2)) else none) else none) else (if l2 = 5 then (if 0 ≤ gt h2 12 l0 51 then (if 0 ≤ l1 ∧ l1 < 16 then (some (gt h2 88 (gt h2 12 l0 51) l1, h2)) else none) else none) else (some ((-102), h2)))))))) else (some ((-101), h2)))) else none
set_option maxHeartbeats 1000000 in
theorem x_X12_failure_0 {l0 l1 l2 : Int} {h : zH} {r : Int} {h' : zH} (hF : F_X12_failure_0 l0 l1 l2 h = some (r, h')) : Ex 1 M_X12_failure 0 [some (vr 12 l0), some (vi l1), some (vi l2)] [] h (fun r1 h1 => r1 = some (vi r) ∧ h1 = h') := by
  unfold F_X12_failure_0 at hF
  refine ex_iload_n (q := 1) dX12_failure_0 rfl rfl ?_
  refine ex_i2l (q := 2) dX12_failure_1 rfl ?_
  refine ex_lconst (q := 3) 0 dX12_failure_2 rfl rfl ⟨by decide, by decide⟩ ?_
  refine ex_aload_n (q := 4) dX12_failure_3 rfl rfl ?_
  obtain ⟨g1, hF⟩ := zg hF
  refine ex_get (q := 7) (v := vi (gt h 12 l0 45)) 45 dX12_failure_4 rfl fl_X12_245 g1 rfl rfl ?_
  refine ex_iconst (q := 8) dX12_failure_7 rfl ⟨by decide, by decide⟩ ?_
  refine ex_isub (q := 9) dX12_failure_8 rfl ?_
  refine ex_i2l (q := 10) dX12_failure_9 rfl ?_
  obtain ⟨r2, h2, e2, hF⟩ := zb_some hF
  refine ex_callS (d' := 0) (q := 13) (as := [vl l1, vl 0, vl (wI ((gt h 12 l0 45) - 1))]) (st1 := [vi r2]) (r := (some (vi r2))) (h2 := h2) dX12_failure_10 rfl (run_X12_in e2) mc_X12_in ms_X12_in ml_X12_147 (by decide) rfl rfl (Nat.le_of_ble_eq_true rfl) rfl ?_
  refine ex_if_ne (q := 16) (tgt := 19) dX12_failure_13 rfl (by decide) (fun c3 => ?_) (fun c3 => ?_)
  · have hF := ip c3 hF
    refine ex_iload_n (q := 20) dX12_failure_19 rfl rfl ?_
    by_cases c4 : l2 = 0
    · have hF := ip c4 hF
      refine ex_tsw 0 (tgt := 60) dX12_failure_20 c4 (by decide) (by decide) rfl (by decide) ?_
      refine ex_aload_n (q := 61) dX12_failure_60 rfl rfl ?_
      refine ex_get (q := 64) (v := vr 83 (gt h2 12 l0 46)) 46 dX12_failure_61 rfl fl_X12_111 g1 rfl rfl ?_
      refine ex_iload_n (q := 65) dX12_failure_64 rfl rfl ?_
      obtain ⟨g5, hF⟩ := zg hF
      obtain ⟨g6, hF⟩ := zg hF
      refine ex_iald (q := 66) dX12_failure_65 rfl kd_83 g5 g6.1 g6.2 ?_
      obtain ⟨rfl, rfl⟩ := zr hF
      exact ex_ret (some (vi (gt h2 83 (gt h2 12 l0 46) l1))) rfl ⟨dX12_failure_66, Or.inl rfl⟩ ⟨rfl, rfl⟩
    · have hF := im c4 hF
      by_cases c7 : l2 = 1
      · have hF := ip c7 hF
        refine ex_tsw 1 (tgt := 67) dX12_failure_20 c7 (by decide) (by decide) rfl (by decide) ?_
        refine ex_aload_n (q := 68) dX12_failure_67 rfl rfl ?_
        refine ex_get (q := 71) (v := vr 84 (gt h2 12 l0 47)) 47 dX12_failure_68 rfl fl_X12_114 g1 rfl rfl ?_
        refine ex_iload_n (q := 72) dX12_failure_71 rfl rfl ?_
        obtain ⟨g8, hF⟩ := zg hF
        obtain ⟨g9, hF⟩ := zg hF
        refine ex_iald (q := 73) dX12_failure_72 rfl kd_84 g8 g9.1 g9.2 ?_
        obtain ⟨rfl, rfl⟩ := zr hF
        exact ex_ret (some (vi (gt h2 84 (gt h2 12 l0 47) l1))) rfl ⟨dX12_failure_73, Or.inl rfl⟩ ⟨rfl, rfl⟩
      · have hF := im c7 hF
        by_cases c10 : l2 = 2
        · have hF := ip c10 hF
          refine ex_tsw 2 (tgt := 74) dX12_failure_20 c10 (by decide) (by decide) rfl (by decide) ?_
          refine ex_aload_n (q := 75) dX12_failure_74 rfl rfl ?_
          refine ex_get (q := 78) (v := vr 85 (gt h2 12 l0 48)) 48 dX12_failure_75 rfl fl_X12_117 g1 rfl rfl ?_
          refine ex_iload_n (q := 79) dX12_failure_78 rfl rfl ?_
          obtain ⟨g11, hF⟩ := zg hF
          obtain ⟨g12, hF⟩ := zg hF
          refine ex_iald (q := 80) dX12_failure_79 rfl kd_85 g11 g12.1 g12.2 ?_
          obtain ⟨rfl, rfl⟩ := zr hF
          exact ex_ret (some (vi (gt h2 85 (gt h2 12 l0 48) l1))) rfl ⟨dX12_failure_80, Or.inl rfl⟩ ⟨rfl, rfl⟩
        · have hF := im c10 hF
          by_cases c13 : l2 = 3
          · have hF := ip c13 hF
            refine ex_tsw 3 (tgt := 81) dX12_failure_20 c13 (by decide) (by decide) rfl (by decide) ?_
            refine ex_aload_n (q := 82) dX12_failure_81 rfl rfl ?_
            refine ex_get (q := 85) (v := vr 86 (gt h2 12 l0 49)) 49 dX12_failure_82 rfl fl_X12_120 g1 rfl rfl ?_
            refine ex_iload_n (q := 86) dX12_failure_85 rfl rfl ?_
            obtain ⟨g14, hF⟩ := zg hF
            obtain ⟨g15, hF⟩ := zg hF
            refine ex_iald (q := 87) dX12_failure_86 rfl kd_86 g14 g15.1 g15.2 ?_
            obtain ⟨rfl, rfl⟩ := zr hF
            exact ex_ret (some (vi (gt h2 86 (gt h2 12 l0 49) l1))) rfl ⟨dX12_failure_87, Or.inl rfl⟩ ⟨rfl, rfl⟩
          · have hF := im c13 hF
            by_cases c16 : l2 = 4
            · have hF := ip c16 hF
              refine ex_tsw 4 (tgt := 88) dX12_failure_20 c16 (by decide) (by decide) rfl (by decide) ?_
              refine ex_aload_n (q := 89) dX12_failure_88 rfl rfl ?_
              refine ex_get (q := 92) (v := vr 87 (gt h2 12 l0 50)) 50 dX12_failure_89 rfl fl_X12_123 g1 rfl rfl ?_
              refine ex_iload_n (q := 93) dX12_failure_92 rfl rfl ?_
              obtain ⟨g17, hF⟩ := zg hF
              obtain ⟨g18, hF⟩ := zg hF
              refine ex_iald (q := 94) dX12_failure_93 rfl kd_87 g17 g18.1 g18.2 ?_
              obtain ⟨rfl, rfl⟩ := zr hF
              exact ex_ret (some (vi (gt h2 87 (gt h2 12 l0 50) l1))) rfl ⟨dX12_failure_94, Or.inl rfl⟩ ⟨rfl, rfl⟩
            · have hF := im c16 hF
              by_cases c19 : l2 = 5
              · have hF := ip c19 hF
                refine ex_tsw 5 (tgt := 95) dX12_failure_20 c19 (by decide) (by decide) rfl (by decide) ?_
                refine ex_aload_n (q := 96) dX12_failure_95 rfl rfl ?_
                refine ex_get (q := 99) (v := vr 88 (gt h2 12 l0 51)) 51 dX12_failure_96 rfl fl_X12_126 g1 rfl rfl ?_
                refine ex_iload_n (q := 100) dX12_failure_99 rfl rfl ?_
                obtain ⟨g20, hF⟩ := zg hF
                obtain ⟨g21, hF⟩ := zg hF
                refine ex_iald (q := 101) dX12_failure_100 rfl kd_88 g20 g21.1 g21.2 ?_
                obtain ⟨rfl, rfl⟩ := zr hF
                exact ex_ret (some (vi (gt h2 88 (gt h2 12 l0 51) l1))) rfl ⟨dX12_failure_101, Or.inl rfl⟩ ⟨rfl, rfl⟩
              · have hF := im c19 hF
                refine ex_tswD (tgt := 102) dX12_failure_20 (by omega) (by decide) ?_
                refine ex_bipush (q := 104) dX12_failure_102 rfl (by decide) ⟨by decide, by decide⟩ ?_
                obtain ⟨rfl, rfl⟩ := zr hF
                exact ex_ret (some (vi (-102))) rfl ⟨dX12_failure_104, Or.inl rfl⟩ ⟨rfl, rfl⟩
  · have hF := im c3 hF
    refine ex_bipush (q := 18) dX12_failure_16 rfl (by decide) ⟨by decide, by decide⟩ ?_
    obtain ⟨rfl, rfl⟩ := zr hF
    exact ex_ret (some (vi (-101))) rfl ⟨dX12_failure_18, Or.inl rfl⟩ ⟨rfl, rfl⟩
def F_X12_failure (l0 l1 l2 : Int) (h : zH) : zO := F_X12_failure_0 l0 l1 l2 h
theorem run_X12_failure {l0 l1 l2 : Int} {h : zH} {r : Int} {h' : zH} (hF : F_X12_failure l0 l1 l2 h = some (r, h')) : Run 1 yX12_failure cX12_failure 3 (some .int) [vr 12 l0, vi l1, vi l2] h (some (vi r)) h' := run_of (M := M_X12_failure) (by decide) rfl (fun z => by cases z) (Nat.le_of_ble_eq_true rfl) (x_X12_failure_0 hF)
abbrev M_X12_leaks : zM := (RX12, (cX12_leaks, (1, ((some .int), false))))
def F_X12_leaks_0 (l0 : Int) (h : zH) : zO := if 0 ≤ l0 then (some (gt h 12 l0 62, h)) else none
set_option maxHeartbeats 1000000 in
theorem x_X12_leaks_0 {l0 : Int} {h : zH} {r : Int} {h' : zH} (hF : F_X12_leaks_0 l0 h = some (r, h')) : Ex 0 M_X12_leaks 0 [some (vr 12 l0)] [] h (fun r1 h1 => r1 = some (vi r) ∧ h1 = h') := by
  unfold F_X12_leaks_0 at hF
  refine ex_aload_n (q := 1) dX12_leaks_0 rfl rfl ?_
  obtain ⟨g1, hF⟩ := zg hF
  refine ex_get (q := 4) (v := vi (gt h 12 l0 62)) 62 dX12_leaks_1 rfl fl_X12_362 g1 rfl rfl ?_
  obtain ⟨rfl, rfl⟩ := zr hF
  exact ex_ret (some (vi (gt h 12 l0 62))) rfl ⟨dX12_leaks_4, Or.inl rfl⟩ ⟨rfl, rfl⟩
def F_X12_leaks (l0 : Int) (h : zH) : zO := F_X12_leaks_0 l0 h
theorem run_X12_leaks {l0 : Int} {h : zH} {r : Int} {h' : zH} (hF : F_X12_leaks l0 h = some (r, h')) : Run 0 yX12_leaks cX12_leaks 1 (some .int) [vr 12 l0] h (some (vi r)) h' := run_of (M := M_X12_leaks) (by decide) rfl (fun z => by cases z) (Nat.le_of_ble_eq_true rfl) (x_X12_leaks_0 hF)
abbrev M_X12_leak : zM := (RX12, (cX12_leak, (3, ((some .int), false))))
def F_X12_leak_0 (l0 l1 l2 : Int) (h : zH) : zO := if 0 ≤ l0 then (zb (F_X12_in l1 0 (wI ((gt h 12 l0 62) - 1)) h) (fun r2 h2 => if r2 ≠ 0 then (if l2 ≠ 0 then (if l2 ≠ 1 then (if l2 ≠ 2 then (some ((-102), h2)) else (if 0 ≤ gt h2 12 l0 65 then (if 0 ≤ l1 ∧ l1 < 60 then (some (gt h2 91 (gt h2 12 l0 65) l1, h2)) else none) else none)) else (if 0 ≤ gt h2 12 l0 64 then (if 0 ≤ l1 ∧ l1 < 60 then (some (gt h2 90 (gt h2 12 l0 64) l1, h2)) else none) else none)) else (if 0 ≤ gt h2 12 l0 63 then (if 0 ≤ l1 ∧ l1 < 60 then (some (gt h2 89 (gt h2 12 l0 63) l1, h2)) else none) else none)) else (some ((-101), h2)))) else none
set_option maxHeartbeats 1000000 in
theorem x_X12_leak_0 {l0 l1 l2 : Int} {h : zH} {r : Int} {h' : zH} (hF : F_X12_leak_0 l0 l1 l2 h = some (r, h')) : Ex 1 M_X12_leak 0 [some (vr 12 l0), some (vi l1), some (vi l2)] [] h (fun r1 h1 => r1 = some (vi r) ∧ h1 = h') := by
  unfold F_X12_leak_0 at hF
  refine ex_iload_n (q := 1) dX12_leak_0 rfl rfl ?_
  refine ex_i2l (q := 2) dX12_leak_1 rfl ?_
  refine ex_lconst (q := 3) 0 dX12_leak_2 rfl rfl ⟨by decide, by decide⟩ ?_
  refine ex_aload_n (q := 4) dX12_leak_3 rfl rfl ?_
  obtain ⟨g1, hF⟩ := zg hF
  refine ex_get (q := 7) (v := vi (gt h 12 l0 62)) 62 dX12_leak_4 rfl fl_X12_362 g1 rfl rfl ?_
  refine ex_iconst (q := 8) dX12_leak_7 rfl ⟨by decide, by decide⟩ ?_
  refine ex_isub (q := 9) dX12_leak_8 rfl ?_
  refine ex_i2l (q := 10) dX12_leak_9 rfl ?_
  obtain ⟨r2, h2, e2, hF⟩ := zb_some hF
  refine ex_callS (d' := 0) (q := 13) (as := [vl l1, vl 0, vl (wI ((gt h 12 l0 62) - 1))]) (st1 := [vi r2]) (r := (some (vi r2))) (h2 := h2) dX12_leak_10 rfl (run_X12_in e2) mc_X12_in ms_X12_in ml_X12_147 (by decide) rfl rfl (Nat.le_of_ble_eq_true rfl) rfl ?_
  refine ex_if_ne (q := 16) (tgt := 19) dX12_leak_13 rfl (by decide) (fun c3 => ?_) (fun c3 => ?_)
  · have hF := ip c3 hF
    refine ex_iload_n (q := 20) dX12_leak_19 rfl rfl ?_
    refine ex_if_ne (q := 23) (tgt := 32) dX12_leak_20 rfl (by decide) (fun c4 => ?_) (fun c4 => ?_)
    · have hF := ip c4 hF
      refine ex_iload_n (q := 33) dX12_leak_32 rfl rfl ?_
      refine ex_iconst (q := 34) dX12_leak_33 rfl ⟨by decide, by decide⟩ ?_
      refine ex_icmp_ne (q := 37) (tgt := 46) dX12_leak_34 rfl (by decide) (fun c5 => ?_) (fun c5 => ?_)
      · have hF := ip c5 hF
        refine ex_iload_n (q := 47) dX12_leak_46 rfl rfl ?_
        refine ex_iconst (q := 48) dX12_leak_47 rfl ⟨by decide, by decide⟩ ?_
        refine ex_icmp_ne (q := 51) (tgt := 60) dX12_leak_48 rfl (by decide) (fun c6 => ?_) (fun c6 => ?_)
        · have hF := ip c6 hF
          refine ex_bipush (q := 62) dX12_leak_60 rfl (by decide) ⟨by decide, by decide⟩ ?_
          obtain ⟨rfl, rfl⟩ := zr hF
          exact ex_ret (some (vi (-102))) rfl ⟨dX12_leak_62, Or.inl rfl⟩ ⟨rfl, rfl⟩
        · have hF := im c6 hF
          refine ex_aload_n (q := 52) dX12_leak_51 rfl rfl ?_
          refine ex_get (q := 55) (v := vr 91 (gt h2 12 l0 65)) 65 dX12_leak_52 rfl fl_X12_139 g1 rfl rfl ?_
          refine ex_iload_n (q := 56) dX12_leak_55 rfl rfl ?_
          obtain ⟨g7, hF⟩ := zg hF
          obtain ⟨g8, hF⟩ := zg hF
          refine ex_iald (q := 57) dX12_leak_56 rfl kd_91 g7 g8.1 g8.2 ?_
          refine ex_goto (q := 62) dX12_leak_57 (by decide) ?_
          obtain ⟨rfl, rfl⟩ := zr hF
          exact ex_ret (some (vi (gt h2 91 (gt h2 12 l0 65) l1))) rfl ⟨dX12_leak_62, Or.inl rfl⟩ ⟨rfl, rfl⟩
      · have hF := im c5 hF
        refine ex_aload_n (q := 38) dX12_leak_37 rfl rfl ?_
        refine ex_get (q := 41) (v := vr 90 (gt h2 12 l0 64)) 64 dX12_leak_38 rfl fl_X12_136 g1 rfl rfl ?_
        refine ex_iload_n (q := 42) dX12_leak_41 rfl rfl ?_
        obtain ⟨g9, hF⟩ := zg hF
        obtain ⟨g10, hF⟩ := zg hF
        refine ex_iald (q := 43) dX12_leak_42 rfl kd_90 g9 g10.1 g10.2 ?_
        refine ex_goto (q := 62) dX12_leak_43 (by decide) ?_
        obtain ⟨rfl, rfl⟩ := zr hF
        exact ex_ret (some (vi (gt h2 90 (gt h2 12 l0 64) l1))) rfl ⟨dX12_leak_62, Or.inl rfl⟩ ⟨rfl, rfl⟩
    · have hF := im c4 hF
      refine ex_aload_n (q := 24) dX12_leak_23 rfl rfl ?_
      refine ex_get (q := 27) (v := vr 89 (gt h2 12 l0 63)) 63 dX12_leak_24 rfl fl_X12_133 g1 rfl rfl ?_
      refine ex_iload_n (q := 28) dX12_leak_27 rfl rfl ?_
      obtain ⟨g11, hF⟩ := zg hF
      obtain ⟨g12, hF⟩ := zg hF
      refine ex_iald (q := 29) dX12_leak_28 rfl kd_89 g11 g12.1 g12.2 ?_
      refine ex_goto (q := 62) dX12_leak_29 (by decide) ?_
      obtain ⟨rfl, rfl⟩ := zr hF
      exact ex_ret (some (vi (gt h2 89 (gt h2 12 l0 63) l1))) rfl ⟨dX12_leak_62, Or.inl rfl⟩ ⟨rfl, rfl⟩
  · have hF := im c3 hF
    refine ex_bipush (q := 18) dX12_leak_16 rfl (by decide) ⟨by decide, by decide⟩ ?_
    obtain ⟨rfl, rfl⟩ := zr hF
    exact ex_ret (some (vi (-101))) rfl ⟨dX12_leak_18, Or.inl rfl⟩ ⟨rfl, rfl⟩
def F_X12_leak (l0 l1 l2 : Int) (h : zH) : zO := F_X12_leak_0 l0 l1 l2 h
theorem run_X12_leak {l0 l1 l2 : Int} {h : zH} {r : Int} {h' : zH} (hF : F_X12_leak l0 l1 l2 h = some (r, h')) : Run 1 yX12_leak cX12_leak 3 (some .int) [vr 12 l0, vi l1, vi l2] h (some (vi r)) h' := run_of (M := M_X12_leak) (by decide) rfl (fun z => by cases z) (Nat.le_of_ble_eq_true rfl) (x_X12_leak_0 hF)
abbrev M_X12_trace_ : zM := (RX12, (cX12_trace_, (4, ((some .int), false))))
def F_X12_trace__0 (l0 l1 l2 l3 : Int) (h : zH) : zO := if 0 ≤ l0 then (zb (F_X12_in l1 0 (wI ((gt h 12 l0 62) - 1)) h) (fun r2 h2 => if r2 = 0 then (some ((-101), h2)) else (if 0 ≤ gt h2 12 l0 65 then (if 0 ≤ l1 ∧ l1 < 60 then (zb (F_X12_in l2 0 (wI ((gt h2 91 (gt h2 12 l0 65) l1) - 1)) h2) (fun r6 h6 => if r6 ≠ 0 then (zb (F_X12_in l3 0 1 h6) (fun r8 h8 => if r8 = 0 then (some ((-102), h8)) else (if 0 ≤ gt h8 12 l0 66 then (if 0 ≤ wI ((wI ((wI (20 * l1)) + (wI (2 * l2)))) + l3) ∧ wI ((wI ((wI (20 * l1)) + (wI (2 * l2)))) + l3) < 1200 then (some (gt h8 92 (gt h8 12 l0 66) (wI ((wI ((wI (20 * l1)) + (wI (2 * l2)))) + l3)), h8)) else none) else none))) else (some ((-101), h6)))) else none) else none))) else none
set_option maxHeartbeats 1000000 in
theorem x_X12_trace__0 {l0 l1 l2 l3 : Int} {h : zH} {r : Int} {h' : zH} (hF : F_X12_trace__0 l0 l1 l2 l3 h = some (r, h')) : Ex 1 M_X12_trace_ 0 [some (vr 12 l0), some (vi l1), some (vi l2), some (vi l3)] [] h (fun r1 h1 => r1 = some (vi r) ∧ h1 = h') := by
  unfold F_X12_trace__0 at hF
  refine ex_iload_n (q := 1) dX12_trace__0 rfl rfl ?_
  refine ex_i2l (q := 2) dX12_trace__1 rfl ?_
  refine ex_lconst (q := 3) 0 dX12_trace__2 rfl rfl ⟨by decide, by decide⟩ ?_
  refine ex_aload_n (q := 4) dX12_trace__3 rfl rfl ?_
  obtain ⟨g1, hF⟩ := zg hF
  refine ex_get (q := 7) (v := vi (gt h 12 l0 62)) 62 dX12_trace__4 rfl fl_X12_362 g1 rfl rfl ?_
  refine ex_iconst (q := 8) dX12_trace__7 rfl ⟨by decide, by decide⟩ ?_
  refine ex_isub (q := 9) dX12_trace__8 rfl ?_
  refine ex_i2l (q := 10) dX12_trace__9 rfl ?_
  obtain ⟨r2, h2, e2, hF⟩ := zb_some hF
  refine ex_callS (d' := 0) (q := 13) (as := [vl l1, vl 0, vl (wI ((gt h 12 l0 62) - 1))]) (st1 := [vi r2]) (r := (some (vi r2))) (h2 := h2) dX12_trace__10 rfl (run_X12_in e2) mc_X12_in ms_X12_in ml_X12_147 (by decide) rfl rfl (Nat.le_of_ble_eq_true rfl) rfl ?_
  refine ex_if_eq (q := 16) (tgt := 34) dX12_trace__13 rfl (by decide) (fun c3 => ?_) (fun c3 => ?_)
  · have hF := ip c3 hF
    refine ex_bipush (q := 36) dX12_trace__34 rfl (by decide) ⟨by decide, by decide⟩ ?_
    obtain ⟨rfl, rfl⟩ := zr hF
    exact ex_ret (some (vi (-101))) rfl ⟨dX12_trace__36, Or.inl rfl⟩ ⟨rfl, rfl⟩
  · have hF := im c3 hF
    refine ex_iload_n (q := 17) dX12_trace__16 rfl rfl ?_
    refine ex_i2l (q := 18) dX12_trace__17 rfl ?_
    refine ex_lconst (q := 19) 0 dX12_trace__18 rfl rfl ⟨by decide, by decide⟩ ?_
    refine ex_aload_n (q := 20) dX12_trace__19 rfl rfl ?_
    refine ex_get (q := 23) (v := vr 91 (gt h2 12 l0 65)) 65 dX12_trace__20 rfl fl_X12_139 g1 rfl rfl ?_
    refine ex_iload_n (q := 24) dX12_trace__23 rfl rfl ?_
    obtain ⟨g4, hF⟩ := zg hF
    obtain ⟨g5, hF⟩ := zg hF
    refine ex_iald (q := 25) dX12_trace__24 rfl kd_91 g4 g5.1 g5.2 ?_
    refine ex_iconst (q := 26) dX12_trace__25 rfl ⟨by decide, by decide⟩ ?_
    refine ex_isub (q := 27) dX12_trace__26 rfl ?_
    refine ex_i2l (q := 28) dX12_trace__27 rfl ?_
    obtain ⟨r6, h6, e6, hF⟩ := zb_some hF
    refine ex_callS (d' := 0) (q := 31) (as := [vl l2, vl 0, vl (wI ((gt h2 91 (gt h2 12 l0 65) l1) - 1))]) (st1 := [vi r6]) (r := (some (vi r6))) (h2 := h6) dX12_trace__28 rfl (run_X12_in e6) mc_X12_in ms_X12_in ml_X12_147 (by decide) rfl rfl (Nat.le_of_ble_eq_true rfl) rfl ?_
    refine ex_if_ne (q := 34) (tgt := 37) dX12_trace__31 rfl (by decide) (fun c7 => ?_) (fun c7 => ?_)
    · have hF := ip c7 hF
      refine ex_iload_n (q := 38) dX12_trace__37 rfl rfl ?_
      refine ex_i2l (q := 39) dX12_trace__38 rfl ?_
      refine ex_lconst (q := 40) 0 dX12_trace__39 rfl rfl ⟨by decide, by decide⟩ ?_
      refine ex_lconst (q := 41) 1 dX12_trace__40 rfl rfl ⟨by decide, by decide⟩ ?_
      obtain ⟨r8, h8, e8, hF⟩ := zb_some hF
      refine ex_callS (d' := 0) (q := 44) (as := [vl l3, vl 0, vl 1]) (st1 := [vi r8]) (r := (some (vi r8))) (h2 := h8) dX12_trace__41 rfl (run_X12_in e8) mc_X12_in ms_X12_in ml_X12_147 (by decide) rfl rfl (Nat.le_of_ble_eq_true rfl) rfl ?_
      refine ex_if_eq (q := 47) (tgt := 65) dX12_trace__44 rfl (by decide) (fun c9 => ?_) (fun c9 => ?_)
      · have hF := ip c9 hF
        refine ex_bipush (q := 67) dX12_trace__65 rfl (by decide) ⟨by decide, by decide⟩ ?_
        obtain ⟨rfl, rfl⟩ := zr hF
        exact ex_ret (some (vi (-102))) rfl ⟨dX12_trace__67, Or.inl rfl⟩ ⟨rfl, rfl⟩
      · have hF := im c9 hF
        refine ex_aload_n (q := 48) dX12_trace__47 rfl rfl ?_
        refine ex_get (q := 51) (v := vr 92 (gt h8 12 l0 66)) 66 dX12_trace__48 rfl fl_X12_142 g1 rfl rfl ?_
        refine ex_bipush (q := 53) dX12_trace__51 rfl (by decide) ⟨by decide, by decide⟩ ?_
        refine ex_iload_n (q := 54) dX12_trace__53 rfl rfl ?_
        refine ex_imul (q := 55) dX12_trace__54 rfl ?_
        refine ex_iconst (q := 56) dX12_trace__55 rfl ⟨by decide, by decide⟩ ?_
        refine ex_iload_n (q := 57) dX12_trace__56 rfl rfl ?_
        refine ex_imul (q := 58) dX12_trace__57 rfl ?_
        refine ex_iadd (q := 59) dX12_trace__58 rfl ?_
        refine ex_iload_n (q := 60) dX12_trace__59 rfl rfl ?_
        refine ex_iadd (q := 61) dX12_trace__60 rfl ?_
        obtain ⟨g10, hF⟩ := zg hF
        obtain ⟨g11, hF⟩ := zg hF
        refine ex_iald (q := 62) dX12_trace__61 rfl kd_92 g10 g11.1 g11.2 ?_
        refine ex_goto (q := 67) dX12_trace__62 (by decide) ?_
        obtain ⟨rfl, rfl⟩ := zr hF
        exact ex_ret (some (vi (gt h8 92 (gt h8 12 l0 66) (wI ((wI ((wI (20 * l1)) + (wI (2 * l2)))) + l3))))) rfl ⟨dX12_trace__67, Or.inl rfl⟩ ⟨rfl, rfl⟩
    · have hF := im c7 hF
      refine ex_bipush (q := 36) dX12_trace__34 rfl (by decide) ⟨by decide, by decide⟩ ?_
      obtain ⟨rfl, rfl⟩ := zr hF
      exact ex_ret (some (vi (-101))) rfl ⟨dX12_trace__36, Or.inl rfl⟩ ⟨rfl, rfl⟩
def F_X12_trace_ (l0 l1 l2 l3 : Int) (h : zH) : zO := F_X12_trace__0 l0 l1 l2 l3 h
theorem run_X12_trace_ {l0 l1 l2 l3 : Int} {h : zH} {r : Int} {h' : zH} (hF : F_X12_trace_ l0 l1 l2 l3 h = some (r, h')) : Run 1 yX12_trace_ cX12_trace_ 4 (some .int) [vr 12 l0, vi l1, vi l2, vi l3] h (some (vi r)) h' := run_of (M := M_X12_trace_) (by decide) rfl (fun z => by cases z) (Nat.le_of_ble_eq_true rfl) (x_X12_trace__0 hF)
abbrev M_X12_giveBack_ : zM := (RX12, (cX12_giveBack_, (5, ((some .int), false))))
def F_X12_giveBack__102b (ag49 : Int → Int → Int → zH → zO) (ag102 : Int → Int → Int → Int → zH → zO) (l0 l2 l3 l4 : Int) (h : zH) : zO := if 20 ≤ l4 then (ag49 l0 l2 (wI (l3 + 1)) h) else (if 0 ≤ l0 then (if 0 ≤ gt h 12 l0 66 then (if 0 ≤ wI ((wI ((wI (20 * l3)) + 20)) + l4) ∧ wI ((wI ((wI (20 * l3)) + 20)) + l4) < 1200 then (if 0 ≤ wI ((wI (20 * l3)) + l4) ∧ wI ((wI (20 * l3)) + l4) < 1200 then (ag102 l0 l2 l3 (wI (l4 + 1)) (pt h 92 (gt h 12 l0 66) (wI ((wI (20 * l3)) + l4)) (gt h 92 (gt h 12 l0 66) (wI ((wI ((wI (20 * l3)) + 20)) + l4))))) else none) else none) else none) else none)
set_option maxHeartbeats 1000000 in
theorem x_X12_giveBack__102b {ag49 : Int → Int → Int → zH → zO} {ag102 : Int → Int → Int → Int → zH → zO} (hag49 : ∀ (l0 l2 l3 : Int) (h : zH) (r : Int) (h' : zH), ag49 l0 l2 l3 h = some (r, h') → Ex 2 M_X12_giveBack_ 49 [some (vr 12 l0), none, some (vi l2), some (vi l3), none] [] h (fun r1 h1 => r1 = some (vi r) ∧ h1 = h')) (hag102 : ∀ (l0 l2 l3 l4 : Int) (h : zH) (r : Int) (h' : zH), ag102 l0 l2 l3 l4 h = some (r, h') → Ex 2 M_X12_giveBack_ 102 [some (vr 12 l0), none, some (vi l2), some (vi l3), some (vi l4)] [] h (fun r1 h1 => r1 = some (vi r) ∧ h1 = h')) {l0 l2 l3 l4 : Int} {h : zH} {r : Int} {h' : zH} (hF : F_X12_giveBack__102b ag49 ag102 l0 l2 l3 l4 h = some (r, h')) : Ex 2 M_X12_giveBack_ 102 [some (vr 12 l0), none, some (vi l2), some (vi l3), some (vi l4)] [] h (fun r1 h1 => r1 = some (vi r) ∧ h1 = h') := by
  unfold F_X12_giveBack__102b at hF
  refine ex_iload (q := 104) dX12_giveBack__102 rfl rfl ?_
  refine ex_bipush (q := 106) dX12_giveBack__104 rfl (by decide) ⟨by decide, by decide⟩ ?_
  refine ex_icmp_ge (q := 109) (tgt := 142) dX12_giveBack__106 rfl (by decide) (fun c1 => ?_) (fun c1 => ?_)
  · have hF := ip c1 hF
    refine ex_iinc (q := 145) (lo' := [some (vr 12 l0), none, some (vi l2), some (vi (wI (l3 + 1))), some (vi l4)]) dX12_giveBack__142 rfl rfl (by decide) rfl rfl ?_
    refine ex_goto (q := 49) dX12_giveBack__145 (by decide) ?_
    exact ex_forget (lo' := [some (vr 12 l0), none, some (vi l2), some (vi (wI (l3 + 1))), none]) ⟨Or.inr rfl, Or.inl rfl, Or.inr rfl, Or.inr rfl, Or.inl rfl, trivial⟩ (hag49 _ _ _ _ _ _ hF)
  · have hF := im c1 hF
    refine ex_aload_n (q := 110) dX12_giveBack__109 rfl rfl ?_
    obtain ⟨g2, hF⟩ := zg hF
    refine ex_get (q := 113) (v := vr 92 (gt h 12 l0 66)) 66 dX12_giveBack__110 rfl fl_X12_142 g2 rfl rfl ?_
    refine ex_bipush (q := 115) dX12_giveBack__113 rfl (by decide) ⟨by decide, by decide⟩ ?_
    refine ex_iload_n (q := 116) dX12_giveBack__115 rfl rfl ?_
    refine ex_imul (q := 117) dX12_giveBack__116 rfl ?_
    refine ex_iload (q := 119) dX12_giveBack__117 rfl rfl ?_
    refine ex_iadd (q := 120) dX12_giveBack__119 rfl ?_
    refine ex_aload_n (q := 121) dX12_giveBack__120 rfl rfl ?_
    refine ex_get (q := 124) (v := vr 92 (gt h 12 l0 66)) 66 dX12_giveBack__121 rfl fl_X12_142 g2 rfl rfl ?_
    refine ex_bipush (q := 126) dX12_giveBack__124 rfl (by decide) ⟨by decide, by decide⟩ ?_
    refine ex_iload_n (q := 127) dX12_giveBack__126 rfl rfl ?_
    refine ex_imul (q := 128) dX12_giveBack__127 rfl ?_
    refine ex_bipush (q := 130) dX12_giveBack__128 rfl (by decide) ⟨by decide, by decide⟩ ?_
    refine ex_iadd (q := 131) dX12_giveBack__130 rfl ?_
    refine ex_iload (q := 133) dX12_giveBack__131 rfl rfl ?_
    refine ex_iadd (q := 134) dX12_giveBack__133 rfl ?_
    obtain ⟨g3, hF⟩ := zg hF
    obtain ⟨g4, hF⟩ := zg hF
    refine ex_iald (q := 135) dX12_giveBack__134 rfl kd_92 g3 g4.1 g4.2 ?_
    obtain ⟨g5, hF⟩ := zg hF
    refine ex_iast (q := 136) dX12_giveBack__135 rfl kd_92 g3 g5.1 g5.2 ?_
    refine ex_iinc (q := 139) (lo' := [some (vr 12 l0), none, some (vi l2), some (vi l3), some (vi (wI (l4 + 1)))]) dX12_giveBack__136 rfl rfl (by decide) rfl rfl ?_
    refine ex_goto (q := 102) dX12_giveBack__139 (by decide) ?_
    exact ex_forget (lo' := [some (vr 12 l0), none, some (vi l2), some (vi l3), some (vi (wI (l4 + 1)))]) ⟨Or.inr rfl, Or.inl rfl, Or.inr rfl, Or.inr rfl, Or.inr rfl, trivial⟩ (hag102 _ _ _ _ _ _ _ hF)
def F_X12_giveBack__102 (ag49 : Int → Int → Int → zH → zO) : Nat → Int → Int → Int → Int → zH → zO
  | 0, _, _, _, _, _ => none
  | n + 1, l0, l2, l3, l4, h => F_X12_giveBack__102b ag49 (F_X12_giveBack__102 ag49 n) l0 l2 l3 l4 h
theorem x_X12_giveBack__102 {ag49 : Int → Int → Int → zH → zO} (hag49 : ∀ (l0 l2 l3 : Int) (h : zH) (r : Int) (h' : zH), ag49 l0 l2 l3 h = some (r, h') → Ex 2 M_X12_giveBack_ 49 [some (vr 12 l0), none, some (vi l2), some (vi l3), none] [] h (fun r1 h1 => r1 = some (vi r) ∧ h1 = h')) : ∀ (n : Nat) (l0 l2 l3 l4 : Int) (h : zH) (r : Int) (h' : zH), F_X12_giveBack__102 ag49 n l0 l2 l3 l4 h = some (r, h') → Ex 2 M_X12_giveBack_ 102 [some (vr 12 l0), none, some (vi l2), some (vi l3), some (vi l4)] [] h (fun r1 h1 => r1 = some (vi r) ∧ h1 = h')
  | 0, _, _, _, _, _, _, _, hF => by cases hF
  | n + 1, _, _, _, _, _, _, _, hF => x_X12_giveBack__102b hag49 (x_X12_giveBack__102 hag49 n) hF
def F_X12_giveBack__49b (ag49 : Int → Int → Int → zH → zO) (l0 l2 l3 : Int) (h : zH) : zO := if 0 ≤ l0 then (if gt h 12 l0 62 ≤ l3 then (if l2 = 0 then (some (1, h)) else (some (0, h))) else (if 0 ≤ gt h 12 l0 63 then (if 0 ≤ wI (l3 + 1) ∧ wI (l3 + 1) < 60 then (if 0 ≤ l3 ∧ l3 < 60 then (if 0 ≤ gt (pt h 89 (gt h 12 l0 63) l3 (gt h 89 (gt h 12 l0 63) (wI (l3 + 1)))) 12 l0 64 then (zl (pt (pt h 89 (gt h 12 l0 63) l3 (gt h 89 (gt h 12 l0 63) (wI (l3 + 1)))) 90 (gt (pt h 89 (gt h 12 l0 63) l3 (gt h 89 (gt h 12 l0 63) (wI (l3 + 1)))) 12 l0 64) l3 (gt (pt h 89 (gt h 12 l0 63) l3 (gt h 89 (gt h 12 l0 63) (wI (l3 + 1)))) 90 (gt (pt h 89 (gt h 12 l0 63) l3 (gt h 89 (gt h 12 l0 63) (wI (l3 + 1)))) 12 l0 64) (wI (l3 + 1)))) (fun k8 => if 0 ≤ gt k8 12 l0 65 then (F_X12_giveBack__102 ag49 zF l0 l2 l3 0 (pt k8 91 (gt k8 12 l0 65) l3 (gt k8 91 (gt k8 12 l0 65) (wI (l3 + 1))))) else none)) else none) else none) else none) else none)) else none
set_option maxHeartbeats 1000000 in
theorem x_X12_giveBack__49b {ag49 : Int → Int → Int → zH → zO} (hag49 : ∀ (l0 l2 l3 : Int) (h : zH) (r : Int) (h' : zH), ag49 l0 l2 l3 h = some (r, h') → Ex 2 M_X12_giveBack_ 49 [some (vr 12 l0), none, some (vi l2), some (vi l3), none] [] h (fun r1 h1 => r1 = some (vi r) ∧ h1 = h')) {l0 l2 l3 : Int} {h : zH} {r : Int} {h' : zH} (hF : F_X12_giveBack__49b ag49 l0 l2 l3 h = some (r, h')) : Ex 2 M_X12_giveBack_ 49 [some (vr 12 l0), none, some (vi l2), some (vi l3), none] [] h (fun r1 h1 => r1 = some (vi r) ∧ h1 = h') := by
  unfold F_X12_giveBack__49b at hF
  refine ex_iload_n (q := 50) dX12_giveBack__49 rfl rfl ?_
  refine ex_aload_n (q := 51) dX12_giveBack__50 rfl rfl ?_
  obtain ⟨g1, hF⟩ := zg hF
  refine ex_get (q := 54) (v := vi (gt h 12 l0 62)) 62 dX12_giveBack__51 rfl fl_X12_362 g1 rfl rfl ?_
  refine ex_icmp_ge (q := 57) (tgt := 148) dX12_giveBack__54 rfl (by decide) (fun c2 => ?_) (fun c2 => ?_)
  · have hF := ip c2 hF
    refine ex_iload_n (q := 149) dX12_giveBack__148 rfl rfl ?_
    refine ex_if_eq (q := 152) (tgt := 156) dX12_giveBack__149 rfl (by decide) (fun c3 => ?_) (fun c3 => ?_)
    · have hF := ip c3 hF
      refine ex_iconst (q := 157) dX12_giveBack__156 rfl ⟨by decide, by decide⟩ ?_
      obtain ⟨rfl, rfl⟩ := zr hF
      exact ex_ret (some (vi 1)) rfl ⟨dX12_giveBack__157, Or.inl rfl⟩ ⟨rfl, rfl⟩
    · have hF := im c3 hF
      refine ex_iconst (q := 153) dX12_giveBack__152 rfl ⟨by decide, by decide⟩ ?_
      refine ex_goto (q := 157) dX12_giveBack__153 (by decide) ?_
      obtain ⟨rfl, rfl⟩ := zr hF
      exact ex_ret (some (vi 0)) rfl ⟨dX12_giveBack__157, Or.inl rfl⟩ ⟨rfl, rfl⟩
  · have hF := im c2 hF
    refine ex_aload_n (q := 58) dX12_giveBack__57 rfl rfl ?_
    refine ex_get (q := 61) (v := vr 89 (gt h 12 l0 63)) 63 dX12_giveBack__58 rfl fl_X12_133 g1 rfl rfl ?_
    refine ex_iload_n (q := 62) dX12_giveBack__61 rfl rfl ?_
    refine ex_aload_n (q := 63) dX12_giveBack__62 rfl rfl ?_
    refine ex_get (q := 66) (v := vr 89 (gt h 12 l0 63)) 63 dX12_giveBack__63 rfl fl_X12_133 g1 rfl rfl ?_
    refine ex_iload_n (q := 67) dX12_giveBack__66 rfl rfl ?_
    refine ex_iconst (q := 68) dX12_giveBack__67 rfl ⟨by decide, by decide⟩ ?_
    refine ex_iadd (q := 69) dX12_giveBack__68 rfl ?_
    obtain ⟨g4, hF⟩ := zg hF
    obtain ⟨g5, hF⟩ := zg hF
    refine ex_iald (q := 70) dX12_giveBack__69 rfl kd_89 g4 g5.1 g5.2 ?_
    obtain ⟨g6, hF⟩ := zg hF
    refine ex_iast (q := 71) dX12_giveBack__70 rfl kd_89 g4 g6.1 g6.2 ?_
    refine ex_aload_n (q := 72) dX12_giveBack__71 rfl rfl ?_
    refine ex_get (q := 75) (v := vr 90 (gt (pt h 89 (gt h 12 l0 63) l3 (gt h 89 (gt h 12 l0 63) (wI (l3 + 1)))) 12 l0 64)) 64 dX12_giveBack__72 rfl fl_X12_136 g1 rfl rfl ?_
    refine ex_iload_n (q := 76) dX12_giveBack__75 rfl rfl ?_
    refine ex_aload_n (q := 77) dX12_giveBack__76 rfl rfl ?_
    refine ex_get (q := 80) (v := vr 90 (gt (pt h 89 (gt h 12 l0 63) l3 (gt h 89 (gt h 12 l0 63) (wI (l3 + 1)))) 12 l0 64)) 64 dX12_giveBack__77 rfl fl_X12_136 g1 rfl rfl ?_
    refine ex_iload_n (q := 81) dX12_giveBack__80 rfl rfl ?_
    refine ex_iconst (q := 82) dX12_giveBack__81 rfl ⟨by decide, by decide⟩ ?_
    refine ex_iadd (q := 83) dX12_giveBack__82 rfl ?_
    obtain ⟨g7, hF⟩ := zg hF
    refine ex_iald (q := 84) dX12_giveBack__83 rfl kd_90 g7 g5.1 g5.2 ?_
    refine ex_iast (q := 85) dX12_giveBack__84 rfl kd_90 g7 g6.1 g6.2 ?_
    have hF := zl_e hF
    generalize pt (pt h 89 (gt h 12 l0 63) l3 (gt h 89 (gt h 12 l0 63) (wI (l3 + 1)))) 90 (gt (pt h 89 (gt h 12 l0 63) l3 (gt h 89 (gt h 12 l0 63) (wI (l3 + 1)))) 12 l0 64) l3 (gt (pt h 89 (gt h 12 l0 63) l3 (gt h 89 (gt h 12 l0 63) (wI (l3 + 1)))) 90 (gt (pt h 89 (gt h 12 l0 63) l3 (gt h 89 (gt h 12 l0 63) (wI (l3 + 1)))) 12 l0 64) (wI (l3 + 1))) = k8 at hF ⊢
    refine ex_aload_n (q := 86) dX12_giveBack__85 rfl rfl ?_
    refine ex_get (q := 89) (v := vr 91 (gt k8 12 l0 65)) 65 dX12_giveBack__86 rfl fl_X12_139 g1 rfl rfl ?_
    refine ex_iload_n (q := 90) dX12_giveBack__89 rfl rfl ?_
    refine ex_aload_n (q := 91) dX12_giveBack__90 rfl rfl ?_
    refine ex_get (q := 94) (v := vr 91 (gt k8 12 l0 65)) 65 dX12_giveBack__91 rfl fl_X12_139 g1 rfl rfl ?_
    refine ex_iload_n (q := 95) dX12_giveBack__94 rfl rfl ?_
    refine ex_iconst (q := 96) dX12_giveBack__95 rfl ⟨by decide, by decide⟩ ?_
    refine ex_iadd (q := 97) dX12_giveBack__96 rfl ?_
    obtain ⟨g9, hF⟩ := zg hF
    refine ex_iald (q := 98) dX12_giveBack__97 rfl kd_91 g9 g5.1 g5.2 ?_
    refine ex_iast (q := 99) dX12_giveBack__98 rfl kd_91 g9 g6.1 g6.2 ?_
    refine ex_iconst (q := 100) dX12_giveBack__99 rfl ⟨by decide, by decide⟩ ?_
    refine ex_istore (q := 102) (lo' := [some (vr 12 l0), none, some (vi l2), some (vi l3), some (vi 0)]) dX12_giveBack__100 rfl (by decide) rfl rfl ?_
    exact ex_forget (lo' := [some (vr 12 l0), none, some (vi l2), some (vi l3), some (vi 0)]) ⟨Or.inr rfl, Or.inl rfl, Or.inr rfl, Or.inr rfl, Or.inr rfl, trivial⟩ (x_X12_giveBack__102 hag49 _ _ _ _ _ _ _ _ hF)
def F_X12_giveBack__49 : Nat → Int → Int → Int → zH → zO
  | 0, _, _, _, _ => none
  | n + 1, l0, l2, l3, h => F_X12_giveBack__49b (F_X12_giveBack__49 n) l0 l2 l3 h
theorem x_X12_giveBack__49 : ∀ (n : Nat) (l0 l2 l3 : Int) (h : zH) (r : Int) (h' : zH), F_X12_giveBack__49 n l0 l2 l3 h = some (r, h') → Ex 2 M_X12_giveBack_ 49 [some (vr 12 l0), none, some (vi l2), some (vi l3), none] [] h (fun r1 h1 => r1 = some (vi r) ∧ h1 = h')
  | 0, _, _, _, _, _, _, hF => by cases hF
  | n + 1, _, _, _, _, _, _, hF => x_X12_giveBack__49b (x_X12_giveBack__49 n) hF
def F_X12_giveBack__0 (l0 l1 : Int) (h : zH) : zO := if 0 ≤ l0 then (zb (F_X12_in l1 0 (wI ((gt h 12 l0 62) - 1)) h) (fun r2 h2 => if r2 ≠ 0 then (if 0 ≤ gt h2 12 l0 63 then (if 0 ≤ l1 ∧ l1 < 60 then (if 0 ≤ gt h2 12 l0 64 then (zb (F_X12_comesBack l0 (gt h2 89 (gt h2 12 l0 63) l1) 3 (gt h2 90 (gt h2 12 l0 64) l1) h2) (fun r7 h7 => F_X12_giveBack__49 zF l0 r7 l1 (pt h7 12 l0 62 (wI ((gt h7 12 l0 62) - 1))))) else none) else none) else none) else (some ((-101), h2)))) else none
set_option maxHeartbeats 1000000 in
theorem x_X12_giveBack__0 {l0 l1 : Int} {h : zH} {r : Int} {h' : zH} (hF : F_X12_giveBack__0 l0 l1 h = some (r, h')) : Ex 2 M_X12_giveBack_ 0 [some (vr 12 l0), some (vi l1), none, none, none] [] h (fun r1 h1 => r1 = some (vi r) ∧ h1 = h') := by
  unfold F_X12_giveBack__0 at hF
  refine ex_iload_n (q := 1) dX12_giveBack__0 rfl rfl ?_
  refine ex_i2l (q := 2) dX12_giveBack__1 rfl ?_
  refine ex_lconst (q := 3) 0 dX12_giveBack__2 rfl rfl ⟨by decide, by decide⟩ ?_
  refine ex_aload_n (q := 4) dX12_giveBack__3 rfl rfl ?_
  obtain ⟨g1, hF⟩ := zg hF
  refine ex_get (q := 7) (v := vi (gt h 12 l0 62)) 62 dX12_giveBack__4 rfl fl_X12_362 g1 rfl rfl ?_
  refine ex_iconst (q := 8) dX12_giveBack__7 rfl ⟨by decide, by decide⟩ ?_
  refine ex_isub (q := 9) dX12_giveBack__8 rfl ?_
  refine ex_i2l (q := 10) dX12_giveBack__9 rfl ?_
  obtain ⟨r2, h2, e2, hF⟩ := zb_some hF
  refine ex_callS (d' := 0) (q := 13) (as := [vl l1, vl 0, vl (wI ((gt h 12 l0 62) - 1))]) (st1 := [vi r2]) (r := (some (vi r2))) (h2 := h2) dX12_giveBack__10 rfl (run_X12_in e2) mc_X12_in ms_X12_in ml_X12_147 (by decide) rfl rfl (Nat.le_of_ble_eq_true rfl) rfl ?_
  refine ex_if_ne (q := 16) (tgt := 19) dX12_giveBack__13 rfl (by decide) (fun c3 => ?_) (fun c3 => ?_)
  · have hF := ip c3 hF
    refine ex_aload_n (q := 20) dX12_giveBack__19 rfl rfl ?_
    refine ex_aload_n (q := 21) dX12_giveBack__20 rfl rfl ?_
    refine ex_get (q := 24) (v := vr 89 (gt h2 12 l0 63)) 63 dX12_giveBack__21 rfl fl_X12_133 g1 rfl rfl ?_
    refine ex_iload_n (q := 25) dX12_giveBack__24 rfl rfl ?_
    obtain ⟨g4, hF⟩ := zg hF
    obtain ⟨g5, hF⟩ := zg hF
    refine ex_iald (q := 26) dX12_giveBack__25 rfl kd_89 g4 g5.1 g5.2 ?_
    refine ex_iconst (q := 27) dX12_giveBack__26 rfl ⟨by decide, by decide⟩ ?_
    refine ex_aload_n (q := 28) dX12_giveBack__27 rfl rfl ?_
    refine ex_get (q := 31) (v := vr 90 (gt h2 12 l0 64)) 64 dX12_giveBack__28 rfl fl_X12_136 g1 rfl rfl ?_
    refine ex_iload_n (q := 32) dX12_giveBack__31 rfl rfl ?_
    obtain ⟨g6, hF⟩ := zg hF
    refine ex_iald (q := 33) dX12_giveBack__32 rfl kd_90 g6 g5.1 g5.2 ?_
    obtain ⟨r7, h7, e7, hF⟩ := zb_some hF
    refine ex_callV (d' := 1) (q := 36) (as := [vi (gt h2 89 (gt h2 12 l0 63) l1), vi 3, vi (gt h2 90 (gt h2 12 l0 64) l1)]) (st1 := [vi r7]) (r := (some (vi r7))) (h2 := h7) dX12_giveBack__33 rfl (run_X12_comesBack e7) mc_X12_comesBack mv_X12_comesBack ml_X12_264 (by decide) g1 rfl rfl (Nat.le_of_ble_eq_true rfl) rfl ?_
    refine ex_istore_n (q := 37) (lo' := [some (vr 12 l0), some (vi l1), some (vi r7), none, none]) dX12_giveBack__36 rfl (by decide) rfl rfl ?_
    refine ex_aload_n (q := 38) dX12_giveBack__37 rfl rfl ?_
    refine ex_dup (q := 39) dX12_giveBack__38 rfl (fun _ z => by cases z) ?_
    refine ex_get (q := 42) (v := vi (gt h7 12 l0 62)) 62 dX12_giveBack__39 rfl fl_X12_362 g1 rfl rfl ?_
    refine ex_iconst (q := 43) dX12_giveBack__42 rfl ⟨by decide, by decide⟩ ?_
    refine ex_isub (q := 44) dX12_giveBack__43 rfl ?_
    refine ex_put (q := 47) 62 dX12_giveBack__44 rfl fl_X12_362 (by decide) g1 rfl rfl (fun z => by cases z) ?_
    refine ex_iload_n (q := 48) dX12_giveBack__47 rfl rfl ?_
    refine ex_istore_n (q := 49) (lo' := [some (vr 12 l0), some (vi l1), some (vi r7), some (vi l1), none]) dX12_giveBack__48 rfl (by decide) rfl rfl ?_
    exact ex_forget (lo' := [some (vr 12 l0), none, some (vi r7), some (vi l1), none]) ⟨Or.inr rfl, Or.inl rfl, Or.inr rfl, Or.inr rfl, Or.inl rfl, trivial⟩ (x_X12_giveBack__49 _ _ _ _ _ _ _ hF)
  · have hF := im c3 hF
    refine ex_bipush (q := 18) dX12_giveBack__16 rfl (by decide) ⟨by decide, by decide⟩ ?_
    obtain ⟨rfl, rfl⟩ := zr hF
    exact ex_ret (some (vi (-101))) rfl ⟨dX12_giveBack__18, Or.inl rfl⟩ ⟨rfl, rfl⟩
def F_X12_giveBack_ (l0 l1 : Int) (h : zH) : zO := F_X12_giveBack__0 l0 l1 h
theorem run_X12_giveBack_ {l0 l1 : Int} {h : zH} {r : Int} {h' : zH} (hF : F_X12_giveBack_ l0 l1 h = some (r, h')) : Run 2 yX12_giveBack_ cX12_giveBack_ 5 (some .int) [vr 12 l0, vi l1] h (some (vi r)) h' := run_of (M := M_X12_giveBack_) (by decide) rfl (fun z => by cases z) (Nat.le_of_ble_eq_true rfl) (x_X12_giveBack__0 hF)
abbrev M_X12_cents : zM := (RX12, (cX12_cents, (6, ((some .long), false))))
def F_X12_cents_35b (ag35 : Int → Int → Int → Int → Int → zH → zO) (l0 l1 l2 l3 l5 : Int) (h : zH) : zO := if 0 ≤ l0 then (if gt h 12 l0 62 ≤ l5 then (if l2 ≠ 0 then (if 0 ≤ gt h 12 l0 11 then (if 0 ≤ l1 ∧ l1 < 8 then (some (gt h 58 (gt h 12 l0 11) l1, h)) else none) else none) else (some (l3, h))) else (if 0 ≤ gt h 12 l0 64 then (if 0 ≤ l5 ∧ l5 < 60 then (if gt h 90 (gt h 12 l0 64) l5 ≠ l1 then (ag35 l0 l1 l2 (wL (l3 + 0)) (wI (l5 + 1)) h) else (if 0 ≤ gt h 12 l0 63 then (if 0 ≤ gt h 12 l0 2 then (if 0 ≤ gt h 89 (gt h 12 l0 63) l5 ∧ gt h 89 (gt h 12 l0 63) l5 < 60 then (ag35 l0 l1 l2 (wL (l3 + (gt h 51 (gt h 12 l0 2) (gt h 89 (gt h 12 l0 63) l5)))) (wI (l5 + 1)) h) else none) else none) else none)) else none) else none)) else none
set_option maxHeartbeats 1000000 in
theorem x_X12_cents_35b {ag35 : Int → Int → Int → Int → Int → zH → zO} (hag35 : ∀ (l0 l1 l2 l3 l5 : Int) (h : zH) (r : Int) (h' : zH), ag35 l0 l1 l2 l3 l5 h = some (r, h') → Ex 1 M_X12_cents 35 [some (vr 12 l0), some (vi l1), some (vi l2), some (vl l3), none, some (vi l5)] [] h (fun r1 h1 => r1 = some (vl r) ∧ h1 = h')) {l0 l1 l2 l3 l5 : Int} {h : zH} {r : Int} {h' : zH} (hF : F_X12_cents_35b ag35 l0 l1 l2 l3 l5 h = some (r, h')) : Ex 1 M_X12_cents 35 [some (vr 12 l0), some (vi l1), some (vi l2), some (vl l3), none, some (vi l5)] [] h (fun r1 h1 => r1 = some (vl r) ∧ h1 = h') := by
  unfold F_X12_cents_35b at hF
  refine ex_iload (q := 37) dX12_cents_35 rfl rfl ?_
  refine ex_aload_n (q := 38) dX12_cents_37 rfl rfl ?_
  obtain ⟨g1, hF⟩ := zg hF
  refine ex_get (q := 41) (v := vi (gt h 12 l0 62)) 62 dX12_cents_38 rfl fl_X12_362 g1 rfl rfl ?_
  refine ex_icmp_ge (q := 44) (tgt := 81) dX12_cents_41 rfl (by decide) (fun c2 => ?_) (fun c2 => ?_)
  · have hF := ip c2 hF
    refine ex_iload_n (q := 82) dX12_cents_81 rfl rfl ?_
    refine ex_if_ne (q := 85) (tgt := 89) dX12_cents_82 rfl (by decide) (fun c3 => ?_) (fun c3 => ?_)
    · have hF := ip c3 hF
      refine ex_aload_n (q := 90) dX12_cents_89 rfl rfl ?_
      refine ex_get (q := 93) (v := vr 58 (gt h 12 l0 11)) 11 dX12_cents_90 rfl fl_X12_34 g1 rfl rfl ?_
      refine ex_iload_n (q := 94) dX12_cents_93 rfl rfl ?_
      obtain ⟨g4, hF⟩ := zg hF
      obtain ⟨g5, hF⟩ := zg hF
      refine ex_lald (q := 95) dX12_cents_94 rfl kd_58 g4 g5.1 g5.2 ?_
      obtain ⟨rfl, rfl⟩ := zr hF
      exact ex_ret (some (vl (gt h 58 (gt h 12 l0 11) l1))) rfl ⟨dX12_cents_95, rfl⟩ ⟨rfl, rfl⟩
    · have hF := im c3 hF
      refine ex_lload_n (q := 86) dX12_cents_85 rfl rfl ?_
      refine ex_goto (q := 95) dX12_cents_86 (by decide) ?_
      obtain ⟨rfl, rfl⟩ := zr hF
      exact ex_ret (some (vl l3)) rfl ⟨dX12_cents_95, rfl⟩ ⟨rfl, rfl⟩
  · have hF := im c2 hF
    refine ex_lload_n (q := 45) dX12_cents_44 rfl rfl ?_
    refine ex_aload_n (q := 46) dX12_cents_45 rfl rfl ?_
    refine ex_get (q := 49) (v := vr 90 (gt h 12 l0 64)) 64 dX12_cents_46 rfl fl_X12_136 g1 rfl rfl ?_
    refine ex_iload (q := 51) dX12_cents_49 rfl rfl ?_
    obtain ⟨g6, hF⟩ := zg hF
    obtain ⟨g7, hF⟩ := zg hF
    refine ex_iald (q := 52) dX12_cents_51 rfl kd_90 g6 g7.1 g7.2 ?_
    refine ex_iload_n (q := 53) dX12_cents_52 rfl rfl ?_
    refine ex_icmp_ne (q := 56) (tgt := 72) dX12_cents_53 rfl (by decide) (fun c8 => ?_) (fun c8 => ?_)
    · have hF := ip c8 hF
      refine ex_lconst (q := 73) 0 dX12_cents_72 rfl rfl ⟨by decide, by decide⟩ ?_
      refine ex_ladd (q := 74) dX12_cents_73 rfl ?_
      refine ex_lstore_n (q := 75) (lo' := [some (vr 12 l0), some (vi l1), some (vi l2), some (vl (wL (l3 + 0))), none, some (vi l5)]) dX12_cents_74 rfl (by decide) rfl rfl ?_
      refine ex_iinc (q := 78) (lo' := [some (vr 12 l0), some (vi l1), some (vi l2), some (vl (wL (l3 + 0))), none, some (vi (wI (l5 + 1)))]) dX12_cents_75 rfl rfl (by decide) rfl rfl ?_
      refine ex_goto (q := 35) dX12_cents_78 (by decide) ?_
      exact ex_forget (lo' := [some (vr 12 l0), some (vi l1), some (vi l2), some (vl (wL (l3 + 0))), none, some (vi (wI (l5 + 1)))]) ⟨Or.inr rfl, Or.inr rfl, Or.inr rfl, Or.inr rfl, Or.inl rfl, Or.inr rfl, trivial⟩ (hag35 _ _ _ _ _ _ _ _ hF)
    · have hF := im c8 hF
      refine ex_aload_n (q := 57) dX12_cents_56 rfl rfl ?_
      refine ex_get (q := 60) (v := vr 51 (gt h 12 l0 2)) 2 dX12_cents_57 rfl fl_X12_13 g1 rfl rfl ?_
      refine ex_aload_n (q := 61) dX12_cents_60 rfl rfl ?_
      refine ex_get (q := 64) (v := vr 89 (gt h 12 l0 63)) 63 dX12_cents_61 rfl fl_X12_133 g1 rfl rfl ?_
      refine ex_iload (q := 66) dX12_cents_64 rfl rfl ?_
      obtain ⟨g9, hF⟩ := zg hF
      refine ex_iald (q := 67) dX12_cents_66 rfl kd_89 g9 g7.1 g7.2 ?_
      obtain ⟨g10, hF⟩ := zg hF
      obtain ⟨g11, hF⟩ := zg hF
      refine ex_iald (q := 68) dX12_cents_67 rfl kd_51 g10 g11.1 g11.2 ?_
      refine ex_i2l (q := 69) dX12_cents_68 rfl ?_
      refine ex_goto (q := 73) dX12_cents_69 (by decide) ?_
      refine ex_ladd (q := 74) dX12_cents_73 rfl ?_
      refine ex_lstore_n (q := 75) (lo' := [some (vr 12 l0), some (vi l1), some (vi l2), some (vl (wL (l3 + (gt h 51 (gt h 12 l0 2) (gt h 89 (gt h 12 l0 63) l5))))), none, some (vi l5)]) dX12_cents_74 rfl (by decide) rfl rfl ?_
      refine ex_iinc (q := 78) (lo' := [some (vr 12 l0), some (vi l1), some (vi l2), some (vl (wL (l3 + (gt h 51 (gt h 12 l0 2) (gt h 89 (gt h 12 l0 63) l5))))), none, some (vi (wI (l5 + 1)))]) dX12_cents_75 rfl rfl (by decide) rfl rfl ?_
      refine ex_goto (q := 35) dX12_cents_78 (by decide) ?_
      exact ex_forget (lo' := [some (vr 12 l0), some (vi l1), some (vi l2), some (vl (wL (l3 + (gt h 51 (gt h 12 l0 2) (gt h 89 (gt h 12 l0 63) l5))))), none, some (vi (wI (l5 + 1)))]) ⟨Or.inr rfl, Or.inr rfl, Or.inr rfl, Or.inr rfl, Or.inl rfl, Or.inr rfl, trivial⟩ (hag35 _ _ _ _ _ _ _ _ hF)
def F_X12_cents_35 : Nat → Int → Int → Int → Int → Int → zH → zO
  | 0, _, _, _, _, _, _ => none
  | n + 1, l0, l1, l2, l3, l5, h => F_X12_cents_35b (F_X12_cents_35 n) l0 l1 l2 l3 l5 h
theorem x_X12_cents_35 : ∀ (n : Nat) (l0 l1 l2 l3 l5 : Int) (h : zH) (r : Int) (h' : zH), F_X12_cents_35 n l0 l1 l2 l3 l5 h = some (r, h') → Ex 1 M_X12_cents 35 [some (vr 12 l0), some (vi l1), some (vi l2), some (vl l3), none, some (vi l5)] [] h (fun r1 h1 => r1 = some (vl r) ∧ h1 = h')
  | 0, _, _, _, _, _, _, _, _, hF => by cases hF
  | n + 1, _, _, _, _, _, _, _, _, hF => x_X12_cents_35b (x_X12_cents_35 n) hF
def F_X12_cents_0 (l0 l1 l2 : Int) (h : zH) : zO := zb (F_X12_in l1 0 7 h) (fun r1 h1 => if r1 ≠ 0 then (zb (F_X12_in l2 0 1 h1) (fun r3 h3 => if r3 ≠ 0 then (F_X12_cents_35 zF l0 l1 l2 0 0 h3) else (some ((-102), h3)))) else (some ((-101), h1)))
set_option maxHeartbeats 1000000 in
theorem x_X12_cents_0 {l0 l1 l2 : Int} {h : zH} {r : Int} {h' : zH} (hF : F_X12_cents_0 l0 l1 l2 h = some (r, h')) : Ex 1 M_X12_cents 0 [some (vr 12 l0), some (vi l1), some (vi l2), none, none, none] [] h (fun r1 h1 => r1 = some (vl r) ∧ h1 = h') := by
  unfold F_X12_cents_0 at hF
  refine ex_iload_n (q := 1) dX12_cents_0 rfl rfl ?_
  refine ex_i2l (q := 2) dX12_cents_1 rfl ?_
  refine ex_lconst (q := 3) 0 dX12_cents_2 rfl rfl ⟨by decide, by decide⟩ ?_
  refine ex_ldc2 (q := 6) 7 dX12_cents_3 rfl (zTbl_i 1213 (by decide +kernel) (by decide +kernel)) rfl ⟨by decide, by decide⟩ ?_
  obtain ⟨r1, h1, e1, hF⟩ := zb_some hF
  refine ex_callS (d' := 0) (q := 9) (as := [vl l1, vl 0, vl 7]) (st1 := [vi r1]) (r := (some (vi r1))) (h2 := h1) dX12_cents_6 rfl (run_X12_in e1) mc_X12_in ms_X12_in ml_X12_147 (by decide) rfl rfl (Nat.le_of_ble_eq_true rfl) rfl ?_
  refine ex_if_ne (q := 12) (tgt := 16) dX12_cents_9 rfl (by decide) (fun c2 => ?_) (fun c2 => ?_)
  · have hF := ip c2 hF
    refine ex_iload_n (q := 17) dX12_cents_16 rfl rfl ?_
    refine ex_i2l (q := 18) dX12_cents_17 rfl ?_
    refine ex_lconst (q := 19) 0 dX12_cents_18 rfl rfl ⟨by decide, by decide⟩ ?_
    refine ex_lconst (q := 20) 1 dX12_cents_19 rfl rfl ⟨by decide, by decide⟩ ?_
    obtain ⟨r3, h3, e3, hF⟩ := zb_some hF
    refine ex_callS (d' := 0) (q := 23) (as := [vl l2, vl 0, vl 1]) (st1 := [vi r3]) (r := (some (vi r3))) (h2 := h3) dX12_cents_20 rfl (run_X12_in e3) mc_X12_in ms_X12_in ml_X12_147 (by decide) rfl rfl (Nat.le_of_ble_eq_true rfl) rfl ?_
    refine ex_if_ne (q := 26) (tgt := 30) dX12_cents_23 rfl (by decide) (fun c4 => ?_) (fun c4 => ?_)
    · have hF := ip c4 hF
      refine ex_lconst (q := 31) 0 dX12_cents_30 rfl rfl ⟨by decide, by decide⟩ ?_
      refine ex_lstore_n (q := 32) (lo' := [some (vr 12 l0), some (vi l1), some (vi l2), some (vl 0), none, none]) dX12_cents_31 rfl (by decide) rfl rfl ?_
      refine ex_iconst (q := 33) dX12_cents_32 rfl ⟨by decide, by decide⟩ ?_
      refine ex_istore (q := 35) (lo' := [some (vr 12 l0), some (vi l1), some (vi l2), some (vl 0), none, some (vi 0)]) dX12_cents_33 rfl (by decide) rfl rfl ?_
      exact ex_forget (lo' := [some (vr 12 l0), some (vi l1), some (vi l2), some (vl 0), none, some (vi 0)]) ⟨Or.inr rfl, Or.inr rfl, Or.inr rfl, Or.inr rfl, Or.inl rfl, Or.inr rfl, trivial⟩ (x_X12_cents_35 _ _ _ _ _ _ _ _ _ hF)
    · have hF := im c4 hF
      refine ex_ldc2 (q := 29) (-102) dX12_cents_26 rfl (zTbl_i 1380 (by decide +kernel) (by decide +kernel)) rfl ⟨by decide, by decide⟩ ?_
      obtain ⟨rfl, rfl⟩ := zr hF
      exact ex_ret (some (vl (-102))) rfl ⟨dX12_cents_29, rfl⟩ ⟨rfl, rfl⟩
  · have hF := im c2 hF
    refine ex_ldc2 (q := 15) (-101) dX12_cents_12 rfl (zTbl_i 1379 (by decide +kernel) (by decide +kernel)) rfl ⟨by decide, by decide⟩ ?_
    obtain ⟨rfl, rfl⟩ := zr hF
    exact ex_ret (some (vl (-101))) rfl ⟨dX12_cents_15, rfl⟩ ⟨rfl, rfl⟩
def F_X12_cents (l0 l1 l2 : Int) (h : zH) : zO := F_X12_cents_0 l0 l1 l2 h
theorem run_X12_cents {l0 l1 l2 : Int} {h : zH} {r : Int} {h' : zH} (hF : F_X12_cents l0 l1 l2 h = some (r, h')) : Run 1 yX12_cents cX12_cents 6 (some .long) [vr 12 l0, vi l1, vi l2] h (some (vl r)) h' := run_of (M := M_X12_cents) (by decide) rfl (fun z => by cases z) (Nat.le_of_ble_eq_true rfl) (x_X12_cents_0 hF)
abbrev M_X12_log : zM := (RX12, (cX12_log, (5, ((some .int), false))))
def F_X12_log_0 (l0 l1 l2 : Int) (h : zH) : zO := zb (F_X12_in l2 0 2 h) (fun r1 h1 => if r1 ≠ 0 then (if 0 ≤ l0 then (if 60 ≤ gt h1 12 l0 12 then (zb (F_X12_in l1 0 (wI (60 - 1)) h1) (fun r5 h5 => if r5 ≠ 0 then (if 0 ≤ wI ((wI ((gt h5 12 l0 12) - 1)) - l1) then (if l2 ≠ 0 then (if l2 ≠ 1 then (if 0 ≤ gt h5 12 l0 15 then (if 0 ≤ (wI ((wI ((gt h5 12 l0 12) - 1)) - l1)) % 60 ∧ (wI ((wI ((gt h5 12 l0 12) - 1)) - l1)) % 60 < 60 then (some (gt h5 61 (gt h5 12 l0 15) ((wI ((wI ((gt h5 12 l0 12) - 1)) - l1)) % 60), h5)) else none) else none) else (if 0 ≤ gt h5 12 l0 14 then (if 0 ≤ (wI ((wI ((gt h5 12 l0 12) - 1)) - l1)) % 60 ∧ (wI ((wI ((gt h5 12 l0 12) - 1)) - l1)) % 60 < 60 then (some (gt h5 60 (gt h5 12 l0 14) ((wI ((wI ((gt h5 12 l0 12) - 1)) - l1)) % 60), h5)) else none) else none)) else (if 0 ≤ gt h5 12 l0 13 then (if 0 ≤ (wI ((wI ((gt h5 12 l0 12) - 1)) - l1)) % 60 ∧ (wI ((wI ((gt h5 12 l0 12) - 1)) - l1)) % 60 < 60 then (some (gt h5 59 (gt h5 12 l0 13) ((wI ((wI ((gt h5 12 l0 12) - 1)) - l1)) % 60), h5)) else none) else none)) else none) else (some ((-1), h5)))) else (zb (F_X12_in l1 0 (wI ((gt h1 12 l0 12) - 1)) h1) (fun r16 h16 => if r16 ≠ 0 then (if 0 ≤ wI ((wI ((gt h16 12 l0 12) - 1)) - l1) then (if l2 ≠ 0 then (if l2 ≠ 1 then (if 0 ≤ gt h16 12 l0 15 then (if 0 ≤ (wI ((wI ((gt h16 12 l0 12) - 1)) - l1)) % 60 ∧ (wI ((wI ((gt h16 12 l0 12) - 1)) - l1)) % 60 < 60 then (some (gt h16 61 (gt h16 12 l0 15) ((wI ((wI ((gt h16 12 l0 12) - 1)) - l1)) % 60), h16)) else none) else none) else (if 0 ≤ gt h16 12 l0 14 then (if 0 ≤ (wI ((wI ((gt h16 12 l0 12) - 1)) - l1)) % 60 ∧ (wI ((wI ((gt h16 12 l0 12) - 1)) - l1)) % 60 < 60 then (some (gt h16 60 (gt h16 12 l0 14) ((wI ((wI ((gt h16 12 l0 12) - 1)) - l1)) % 60), h16)) else none) else none)) else (if 0 ≤ gt h16 12 l0 13 then (if 0 ≤ (wI ((wI ((gt h16 12 l0 12) - 1)) - l1)) % 60 ∧ (wI ((wI ((gt h16 12 l0 12) - 1)) - l1)) % 60 < 60 then (some (gt h16 59 (gt h16 12 l0 13) ((wI ((wI ((gt h16 12 l0 12) - 1)) - l1)) % 60), h16)) else none) else none)) else none) else (some ((-1), h16))))) else none) else (some ((-102), h1)))
set_option maxHeartbeats 1000000 in
theorem x_X12_log_0 {l0 l1 l2 : Int} {h : zH} {r : Int} {h' : zH} (hF : F_X12_log_0 l0 l1 l2 h = some (r, h')) : Ex 1 M_X12_log 0 [some (vr 12 l0), some (vi l1), some (vi l2), none, none] [] h (fun r1 h1 => r1 = some (vi r) ∧ h1 = h') := by
  unfold F_X12_log_0 at hF
  refine ex_iload_n (q := 1) dX12_log_0 rfl rfl ?_
  refine ex_i2l (q := 2) dX12_log_1 rfl ?_
  refine ex_lconst (q := 3) 0 dX12_log_2 rfl rfl ⟨by decide, by decide⟩ ?_
  refine ex_ldc2 (q := 6) 2 dX12_log_3 rfl (zTbl_i 1385 (by decide +kernel) (by decide +kernel)) rfl ⟨by decide, by decide⟩ ?_
  obtain ⟨r1, h1, e1, hF⟩ := zb_some hF
  refine ex_callS (d' := 0) (q := 9) (as := [vl l2, vl 0, vl 2]) (st1 := [vi r1]) (r := (some (vi r1))) (h2 := h1) dX12_log_6 rfl (run_X12_in e1) mc_X12_in ms_X12_in ml_X12_147 (by decide) rfl rfl (Nat.le_of_ble_eq_true rfl) rfl ?_
  refine ex_if_ne (q := 12) (tgt := 15) dX12_log_9 rfl (by decide) (fun c2 => ?_) (fun c2 => ?_)
  · have hF := ip c2 hF
    refine ex_aload_n (q := 16) dX12_log_15 rfl rfl ?_
    obtain ⟨g3, hF⟩ := zg hF
    refine ex_get (q := 19) (v := vi (gt h1 12 l0 12)) 12 dX12_log_16 rfl fl_X12_174 g3 rfl rfl ?_
    refine ex_bipush (q := 21) dX12_log_19 rfl (by decide) ⟨by decide, by decide⟩ ?_
    refine ex_icmp_ge (q := 24) (tgt := 31) dX12_log_21 rfl (by decide) (fun c4 => ?_) (fun c4 => ?_)
    · have hF := ip c4 hF
      refine ex_bipush (q := 33) dX12_log_31 rfl (by decide) ⟨by decide, by decide⟩ ?_
      refine ex_istore_n (q := 34) (lo' := [some (vr 12 l0), some (vi l1), some (vi l2), some (vi 60), none]) dX12_log_33 rfl (by decide) rfl rfl ?_
      refine ex_iload_n (q := 35) dX12_log_34 rfl rfl ?_
      refine ex_i2l (q := 36) dX12_log_35 rfl ?_
      refine ex_lconst (q := 37) 0 dX12_log_36 rfl rfl ⟨by decide, by decide⟩ ?_
      refine ex_iload_n (q := 38) dX12_log_37 rfl rfl ?_
      refine ex_iconst (q := 39) dX12_log_38 rfl ⟨by decide, by decide⟩ ?_
      refine ex_isub (q := 40) dX12_log_39 rfl ?_
      refine ex_i2l (q := 41) dX12_log_40 rfl ?_
      obtain ⟨r5, h5, e5, hF⟩ := zb_some hF
      refine ex_callS (d' := 0) (q := 44) (as := [vl l1, vl 0, vl (wI (60 - 1))]) (st1 := [vi r5]) (r := (some (vi r5))) (h2 := h5) dX12_log_41 rfl (run_X12_in e5) mc_X12_in ms_X12_in ml_X12_147 (by decide) rfl rfl (Nat.le_of_ble_eq_true rfl) rfl ?_
      refine ex_if_ne (q := 47) (tgt := 49) dX12_log_44 rfl (by decide) (fun c6 => ?_) (fun c6 => ?_)
      · have hF := ip c6 hF
        refine ex_aload_n (q := 50) dX12_log_49 rfl rfl ?_
        refine ex_get (q := 53) (v := vi (gt h5 12 l0 12)) 12 dX12_log_50 rfl fl_X12_174 g3 rfl rfl ?_
        refine ex_iconst (q := 54) dX12_log_53 rfl ⟨by decide, by decide⟩ ?_
        refine ex_isub (q := 55) dX12_log_54 rfl ?_
        refine ex_iload_n (q := 56) dX12_log_55 rfl rfl ?_
        refine ex_isub (q := 57) dX12_log_56 rfl ?_
        refine ex_bipush (q := 59) dX12_log_57 rfl (by decide) ⟨by decide, by decide⟩ ?_
        obtain ⟨g7, hF⟩ := zg hF
        refine ex_irem (q := 60) dX12_log_59 rfl g7 (by decide) ?_
        refine ex_istore (q := 62) (lo' := [some (vr 12 l0), some (vi l1), some (vi l2), some (vi 60), some (vi ((wI ((wI ((gt h5 12 l0 12) - 1)) - l1)) % 60))]) dX12_log_60 rfl (by decide) rfl rfl ?_
        refine ex_iload_n (q := 63) dX12_log_62 rfl rfl ?_
        refine ex_if_ne (q := 66) (tgt := 76) dX12_log_63 rfl (by decide) (fun c8 => ?_) (fun c8 => ?_)
        · have hF := ip c8 hF
          refine ex_iload_n (q := 77) dX12_log_76 rfl rfl ?_
          refine ex_iconst (q := 78) dX12_log_77 rfl ⟨by decide, by decide⟩ ?_
          refine ex_icmp_ne (q := 81) (tgt := 91) dX12_log_78 rfl (by decide) (fun c9 => ?_) (fun c9 => ?_)
          · have hF := ip c9 hF
            refine ex_aload_n (q := 92) dX12_log_91 rfl rfl ?_
            refine ex_get (q := 95) (v := vr 61 (gt h5 12 l0 15)) 15 dX12_log_92 rfl fl_X12_44 g3 rfl rfl ?_
            refine ex_iload (q := 97) dX12_log_95 rfl rfl ?_
            obtain ⟨g10, hF⟩ := zg hF
            obtain ⟨g11, hF⟩ := zg hF
            refine ex_iald (q := 98) dX12_log_97 rfl kd_61 g10 g11.1 g11.2 ?_
            obtain ⟨rfl, rfl⟩ := zr hF
            exact ex_ret (some (vi (gt h5 61 (gt h5 12 l0 15) ((wI ((wI ((gt h5 12 l0 12) - 1)) - l1)) % 60)))) rfl ⟨dX12_log_98, Or.inl rfl⟩ ⟨rfl, rfl⟩
          · have hF := im c9 hF
            refine ex_aload_n (q := 82) dX12_log_81 rfl rfl ?_
            refine ex_get (q := 85) (v := vr 60 (gt h5 12 l0 14)) 14 dX12_log_82 rfl fl_X12_41 g3 rfl rfl ?_
            refine ex_iload (q := 87) dX12_log_85 rfl rfl ?_
            obtain ⟨g12, hF⟩ := zg hF
            obtain ⟨g13, hF⟩ := zg hF
            refine ex_iald (q := 88) dX12_log_87 rfl kd_60 g12 g13.1 g13.2 ?_
            refine ex_goto (q := 98) dX12_log_88 (by decide) ?_
            obtain ⟨rfl, rfl⟩ := zr hF
            exact ex_ret (some (vi (gt h5 60 (gt h5 12 l0 14) ((wI ((wI ((gt h5 12 l0 12) - 1)) - l1)) % 60)))) rfl ⟨dX12_log_98, Or.inl rfl⟩ ⟨rfl, rfl⟩
        · have hF := im c8 hF
          refine ex_aload_n (q := 67) dX12_log_66 rfl rfl ?_
          refine ex_get (q := 70) (v := vr 59 (gt h5 12 l0 13)) 13 dX12_log_67 rfl fl_X12_38 g3 rfl rfl ?_
          refine ex_iload (q := 72) dX12_log_70 rfl rfl ?_
          obtain ⟨g14, hF⟩ := zg hF
          obtain ⟨g15, hF⟩ := zg hF
          refine ex_iald (q := 73) dX12_log_72 rfl kd_59 g14 g15.1 g15.2 ?_
          refine ex_goto (q := 98) dX12_log_73 (by decide) ?_
          obtain ⟨rfl, rfl⟩ := zr hF
          exact ex_ret (some (vi (gt h5 59 (gt h5 12 l0 13) ((wI ((wI ((gt h5 12 l0 12) - 1)) - l1)) % 60)))) rfl ⟨dX12_log_98, Or.inl rfl⟩ ⟨rfl, rfl⟩
      · have hF := im c6 hF
        refine ex_iconst (q := 48) dX12_log_47 rfl ⟨by decide, by decide⟩ ?_
        obtain ⟨rfl, rfl⟩ := zr hF
        exact ex_ret (some (vi (-1))) rfl ⟨dX12_log_48, Or.inl rfl⟩ ⟨rfl, rfl⟩
    · have hF := im c4 hF
      refine ex_aload_n (q := 25) dX12_log_24 rfl rfl ?_
      refine ex_get (q := 28) (v := vi (gt h1 12 l0 12)) 12 dX12_log_25 rfl fl_X12_174 g3 rfl rfl ?_
      refine ex_goto (q := 33) dX12_log_28 (by decide) ?_
      refine ex_istore_n (q := 34) (lo' := [some (vr 12 l0), some (vi l1), some (vi l2), some (vi (gt h1 12 l0 12)), none]) dX12_log_33 rfl (by decide) rfl rfl ?_
      refine ex_iload_n (q := 35) dX12_log_34 rfl rfl ?_
      refine ex_i2l (q := 36) dX12_log_35 rfl ?_
      refine ex_lconst (q := 37) 0 dX12_log_36 rfl rfl ⟨by decide, by decide⟩ ?_
      refine ex_iload_n (q := 38) dX12_log_37 rfl rfl ?_
      refine ex_iconst (q := 39) dX12_log_38 rfl ⟨by decide, by decide⟩ ?_
      refine ex_isub (q := 40) dX12_log_39 rfl ?_
      refine ex_i2l (q := 41) dX12_log_40 rfl ?_
      obtain ⟨r16, h16, e16, hF⟩ := zb_some hF
      refine ex_callS (d' := 0) (q := 44) (as := [vl l1, vl 0, vl (wI ((gt h1 12 l0 12) - 1))]) (st1 := [vi r16]) (r := (some (vi r16))) (h2 := h16) dX12_log_41 rfl (run_X12_in e16) mc_X12_in ms_X12_in ml_X12_147 (by decide) rfl rfl (Nat.le_of_ble_eq_true rfl) rfl ?_
      refine ex_if_ne (q := 47) (tgt := 49) dX12_log_44 rfl (by decide) (fun c17 => ?_) (fun c17 => ?_)
      · have hF := ip c17 hF
        refine ex_aload_n (q := 50) dX12_log_49 rfl rfl ?_
        refine ex_get (q := 53) (v := vi (gt h16 12 l0 12)) 12 dX12_log_50 rfl fl_X12_174 g3 rfl rfl ?_
        refine ex_iconst (q := 54) dX12_log_53 rfl ⟨by decide, by decide⟩ ?_
        refine ex_isub (q := 55) dX12_log_54 rfl ?_
        refine ex_iload_n (q := 56) dX12_log_55 rfl rfl ?_
        refine ex_isub (q := 57) dX12_log_56 rfl ?_
        refine ex_bipush (q := 59) dX12_log_57 rfl (by decide) ⟨by decide, by decide⟩ ?_
        obtain ⟨g18, hF⟩ := zg hF
        refine ex_irem (q := 60) dX12_log_59 rfl g18 (by decide) ?_
        refine ex_istore (q := 62) (lo' := [some (vr 12 l0), some (vi l1), some (vi l2), some (vi (gt h1 12 l0 12)), some (vi ((wI ((wI ((gt h16 12 l0 12) - 1)) - l1)) % 60))]) dX12_log_60 rfl (by decide) rfl rfl ?_
        refine ex_iload_n (q := 63) dX12_log_62 rfl rfl ?_
        refine ex_if_ne (q := 66) (tgt := 76) dX12_log_63 rfl (by decide) (fun c19 => ?_) (fun c19 => ?_)
        · have hF := ip c19 hF
          refine ex_iload_n (q := 77) dX12_log_76 rfl rfl ?_
          refine ex_iconst (q := 78) dX12_log_77 rfl ⟨by decide, by decide⟩ ?_
          refine ex_icmp_ne (q := 81) (tgt := 91) dX12_log_78 rfl (by decide) (fun c20 => ?_) (fun c20 => ?_)
          · have hF := ip c20 hF
            refine ex_aload_n (q := 92) dX12_log_91 rfl rfl ?_
            refine ex_get (q := 95) (v := vr 61 (gt h16 12 l0 15)) 15 dX12_log_92 rfl fl_X12_44 g3 rfl rfl ?_
            refine ex_iload (q := 97) dX12_log_95 rfl rfl ?_
            obtain ⟨g21, hF⟩ := zg hF
            obtain ⟨g22, hF⟩ := zg hF
            refine ex_iald (q := 98) dX12_log_97 rfl kd_61 g21 g22.1 g22.2 ?_
            obtain ⟨rfl, rfl⟩ := zr hF
            exact ex_ret (some (vi (gt h16 61 (gt h16 12 l0 15) ((wI ((wI ((gt h16 12 l0 12) - 1)) - l1)) % 60)))) rfl ⟨dX12_log_98, Or.inl rfl⟩ ⟨rfl, rfl⟩
          · have hF := im c20 hF
            refine ex_aload_n (q := 82) dX12_log_81 rfl rfl ?_
            refine ex_get (q := 85) (v := vr 60 (gt h16 12 l0 14)) 14 dX12_log_82 rfl fl_X12_41 g3 rfl rfl ?_
            refine ex_iload (q := 87) dX12_log_85 rfl rfl ?_
            obtain ⟨g23, hF⟩ := zg hF
            obtain ⟨g24, hF⟩ := zg hF
            refine ex_iald (q := 88) dX12_log_87 rfl kd_60 g23 g24.1 g24.2 ?_
            refine ex_goto (q := 98) dX12_log_88 (by decide) ?_
            obtain ⟨rfl, rfl⟩ := zr hF
            exact ex_ret (some (vi (gt h16 60 (gt h16 12 l0 14) ((wI ((wI ((gt h16 12 l0 12) - 1)) - l1)) % 60)))) rfl ⟨dX12_log_98, Or.inl rfl⟩ ⟨rfl, rfl⟩
        · have hF := im c19 hF
          refine ex_aload_n (q := 67) dX12_log_66 rfl rfl ?_
          refine ex_get (q := 70) (v := vr 59 (gt h16 12 l0 13)) 13 dX12_log_67 rfl fl_X12_38 g3 rfl rfl ?_
          refine ex_iload (q := 72) dX12_log_70 rfl rfl ?_
          obtain ⟨g25, hF⟩ := zg hF
          obtain ⟨g26, hF⟩ := zg hF
          refine ex_iald (q := 73) dX12_log_72 rfl kd_59 g25 g26.1 g26.2 ?_
          refine ex_goto (q := 98) dX12_log_73 (by decide) ?_
          obtain ⟨rfl, rfl⟩ := zr hF
          exact ex_ret (some (vi (gt h16 59 (gt h16 12 l0 13) ((wI ((wI ((gt h16 12 l0 12) - 1)) - l1)) % 60)))) rfl ⟨dX12_log_98, Or.inl rfl⟩ ⟨rfl, rfl⟩
      · have hF := im c17 hF
        refine ex_iconst (q := 48) dX12_log_47 rfl ⟨by decide, by decide⟩ ?_
        obtain ⟨rfl, rfl⟩ := zr hF
        exact ex_ret (some (vi (-1))) rfl ⟨dX12_log_48, Or.inl rfl⟩ ⟨rfl, rfl⟩
  · have hF := im c2 hF
    refine ex_bipush (q := 14) dX12_log_12 rfl (by decide) ⟨by decide, by decide⟩ ?_
    obtain ⟨rfl, rfl⟩ := zr hF
    exact ex_ret (some (vi (-102))) rfl ⟨dX12_log_14, Or.inl rfl⟩ ⟨rfl, rfl⟩
def F_X12_log (l0 l1 l2 : Int) (h : zH) : zO := F_X12_log_0 l0 l1 l2 h
theorem run_X12_log {l0 l1 l2 : Int} {h : zH} {r : Int} {h' : zH} (hF : F_X12_log l0 l1 l2 h = some (r, h')) : Run 1 yX12_log cX12_log 5 (some .int) [vr 12 l0, vi l1, vi l2] h (some (vi r)) h' := run_of (M := M_X12_log) (by decide) rfl (fun z => by cases z) (Nat.le_of_ble_eq_true rfl) (x_X12_log_0 hF)

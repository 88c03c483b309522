abbrev M_X7_init : zM := (RX7, (cX7_init, (1, (none, true))))
def F_X7_init_0 (l0 : Int) (h : zH) : zO := if 0 ≤ l0 then (zl (pt (nw (pt (nw (pt (nw h 36 30) 7 l0 0 (cn h 36)) 37 30) 7 l0 1 (cn (pt (nw h 36 30) 7 l0 0 (cn h 36)) 37)) 38 30) 7 l0 2 (cn (pt (nw (pt (nw h 36 30) 7 l0 0 (cn h 36)) 37 30) 7 l0 1 (cn (pt (nw h 36 30) 7 l0 0 (cn h 36)) 37)) 38)) (fun k2 => some (0, k2))) else none
set_option maxHeartbeats 1000000 in
theorem x_X7_init_0 {l0 : Int} {h : zH} {r : Int} {h' : zH} (hF : F_X7_init_0 l0 h = some (r, h')) : Ex 1 M_X7_init 0 [some (vr 7 l0)] [] h (fun r1 h1 => r1 = none ∧ h1 = h') := by
  unfold F_X7_init_0 at hF
  refine ex_aload_n (q := 1) dX7_init_0 rfl rfl ?_
  obtain ⟨g1, hF⟩ := zg hF
  refine ex_obj (q := 4) dX7_init_1 rfl (by decide) g1 (by decide) (zTbl_i 111 (by decide +kernel) (by decide +kernel)) (zTbl_i 96 (by decide +kernel) (by decide +kernel)) (zTbl_i 97 rfl rfl) (Nat.le_of_ble_eq_true rfl) ?_
  refine ex_aload_n (q := 5) dX7_init_4 rfl rfl ?_
  refine ex_bipush (q := 7) dX7_init_5 rfl (by decide) ⟨by decide, by decide⟩ ?_
  refine ex_newa (q := 9) (n := cn h 36) dX7_init_7 rfl kd_36 rfl (by decide) (by decide) (zTbl_i 126 (by decide +kernel) (by decide +kernel)) rfl rfl ?_
  refine ex_putF (q := 12) 0 dX7_init_9 rfl (by decide) (by decide) (zTbl_i 112 (by decide +kernel) (by decide +kernel)) (by decide) rfl (by decide) g1 rfl rfl (fun z => by cases z) ?_
  refine ex_aload_n (q := 13) dX7_init_12 rfl rfl ?_
  refine ex_bipush (q := 15) dX7_init_13 rfl (by decide) ⟨by decide, by decide⟩ ?_
  refine ex_newa (q := 17) (n := cn (pt (nw h 36 30) 7 l0 0 (cn h 36)) 37) dX7_init_15 rfl kd_37 rfl (by decide) (by decide) (zTbl_i 126 (by decide +kernel) (by decide +kernel)) rfl rfl ?_
  refine ex_putF (q := 20) 1 dX7_init_17 rfl (by decide) (by decide) (zTbl_i 113 (by decide +kernel) (by decide +kernel)) (by decide) rfl (by decide) g1 rfl rfl (fun z => by cases z) ?_
  refine ex_aload_n (q := 21) dX7_init_20 rfl rfl ?_
  refine ex_bipush (q := 23) dX7_init_21 rfl (by decide) ⟨by decide, by decide⟩ ?_
  refine ex_newa (q := 25) (n := cn (pt (nw (pt (nw h 36 30) 7 l0 0 (cn h 36)) 37 30) 7 l0 1 (cn (pt (nw h 36 30) 7 l0 0 (cn h 36)) 37)) 38) dX7_init_23 rfl kd_38 rfl (by decide) (by decide) (zTbl_i 126 (by decide +kernel) (by decide +kernel)) rfl rfl ?_
  refine ex_putF (q := 28) 2 dX7_init_25 rfl (by decide) (by decide) (zTbl_i 114 (by decide +kernel) (by decide +kernel)) (by decide) rfl (by decide) g1 rfl rfl (fun z => by cases z) ?_
  have hF := zl_e hF
  generalize pt (nw (pt (nw (pt (nw h 36 30) 7 l0 0 (cn h 36)) 37 30) 7 l0 1 (cn (pt (nw h 36 30) 7 l0 0 (cn h 36)) 37)) 38 30) 7 l0 2 (cn (pt (nw (pt (nw h 36 30) 7 l0 0 (cn h 36)) 37 30) 7 l0 1 (cn (pt (nw h 36 30) 7 l0 0 (cn h 36)) 37)) 38) = k2 at hF ⊢
  obtain ⟨rfl, rfl⟩ := zr hF
  exact ex_ret none rfl ⟨dX7_init_28, rfl⟩ ⟨rfl, rfl⟩
def F_X7_init (l0 : Int) (h : zH) : zO := F_X7_init_0 l0 h
theorem run_X7_init {l0 : Int} {h : zH} {r : Int} {h' : zH} (hF : F_X7_init l0 h = some (r, h')) : Run 1 yX7_init cX7_init 1 none [vr 7 l0] h none h' := run_of (M := M_X7_init) (by decide) rfl (fun _ => rfl) (Nat.le_of_ble_eq_true rfl) (x_X7_init_0 hF)
abbrev M_X5_init : zM := (RX5, (cX5_init, (1, (none, true))))
def F_X5_init_0 (l0 : Int) (h : zH) : zO := if 0 ≤ l0 then (zl (pt (nw (pt (nw (pt (nw h 31 60) 5 l0 0 (cn h 31)) 32 60) 5 l0 1 (cn (pt (nw h 31 60) 5 l0 0 (cn h 31)) 32)) 33 60) 5 l0 2 (cn (pt (nw (pt (nw h 31 60) 5 l0 0 (cn h 31)) 32 60) 5 l0 1 (cn (pt (nw h 31 60) 5 l0 0 (cn h 31)) 32)) 33)) (fun k2 => some (0, (pt k2 5 l0 4 59)))) else none
set_option maxHeartbeats 1000000 in
theorem x_X5_init_0 {l0 : Int} {h : zH} {r : Int} {h' : zH} (hF : F_X5_init_0 l0 h = some (r, h')) : Ex 1 M_X5_init 0 [some (vr 5 l0)] [] h (fun r1 h1 => r1 = none ∧ h1 = h') := by
  unfold F_X5_init_0 at hF
  refine ex_aload_n (q := 1) dX5_init_0 rfl rfl ?_
  obtain ⟨g1, hF⟩ := zg hF
  refine ex_obj (q := 4) dX5_init_1 rfl (by decide) g1 (by decide) (zTbl_i 133 (by decide +kernel) (by decide +kernel)) (zTbl_i 96 (by decide +kernel) (by decide +kernel)) (zTbl_i 97 rfl rfl) (Nat.le_of_ble_eq_true rfl) ?_
  refine ex_aload_n (q := 5) dX5_init_4 rfl rfl ?_
  refine ex_bipush (q := 7) dX5_init_5 rfl (by decide) ⟨by decide, by decide⟩ ?_
  refine ex_newa (q := 9) (n := cn h 31) dX5_init_7 rfl kd_31 rfl (by decide) (by decide) (zTbl_i 126 (by decide +kernel) (by decide +kernel)) rfl rfl ?_
  refine ex_putF (q := 12) 0 dX5_init_9 rfl (by decide) (by decide) (zTbl_i 134 (by decide +kernel) (by decide +kernel)) (by decide) rfl (by decide) g1 rfl rfl (fun z => by cases z) ?_
  refine ex_aload_n (q := 13) dX5_init_12 rfl rfl ?_
  refine ex_bipush (q := 15) dX5_init_13 rfl (by decide) ⟨by decide, by decide⟩ ?_
  refine ex_newa (q := 17) (n := cn (pt (nw h 31 60) 5 l0 0 (cn h 31)) 32) dX5_init_15 rfl kd_32 rfl (by decide) (by decide) (zTbl_i 126 (by decide +kernel) (by decide +kernel)) rfl rfl ?_
  refine ex_putF (q := 20) 1 dX5_init_17 rfl (by decide) (by decide) (zTbl_i 135 (by decide +kernel) (by decide +kernel)) (by decide) rfl (by decide) g1 rfl rfl (fun z => by cases z) ?_
  refine ex_aload_n (q := 21) dX5_init_20 rfl rfl ?_
  refine ex_bipush (q := 23) dX5_init_21 rfl (by decide) ⟨by decide, by decide⟩ ?_
  refine ex_newa (q := 25) (n := cn (pt (nw (pt (nw h 31 60) 5 l0 0 (cn h 31)) 32 60) 5 l0 1 (cn (pt (nw h 31 60) 5 l0 0 (cn h 31)) 32)) 33) dX5_init_23 rfl kd_33 rfl (by decide) (by decide) (zTbl_i 126 (by decide +kernel) (by decide +kernel)) rfl rfl ?_
  refine ex_putF (q := 28) 2 dX5_init_25 rfl (by decide) (by decide) (zTbl_i 136 (by decide +kernel) (by decide +kernel)) (by decide) rfl (by decide) g1 rfl rfl (fun z => by cases z) ?_
  have hF := zl_e hF
  generalize pt (nw (pt (nw (pt (nw h 31 60) 5 l0 0 (cn h 31)) 32 60) 5 l0 1 (cn (pt (nw h 31 60) 5 l0 0 (cn h 31)) 32)) 33 60) 5 l0 2 (cn (pt (nw (pt (nw h 31 60) 5 l0 0 (cn h 31)) 32 60) 5 l0 1 (cn (pt (nw h 31 60) 5 l0 0 (cn h 31)) 32)) 33) = k2 at hF ⊢
  refine ex_aload_n (q := 29) dX5_init_28 rfl rfl ?_
  refine ex_bipush (q := 31) dX5_init_29 rfl (by decide) ⟨by decide, by decide⟩ ?_
  refine ex_put (q := 34) 4 dX5_init_31 rfl fl_X5_21 (by decide) g1 rfl rfl (fun z => by cases z) ?_
  obtain ⟨rfl, rfl⟩ := zr hF
  exact ex_ret none rfl ⟨dX5_init_34, rfl⟩ ⟨rfl, rfl⟩
def F_X5_init (l0 : Int) (h : zH) : zO := F_X5_init_0 l0 h
theorem run_X5_init {l0 : Int} {h : zH} {r : Int} {h' : zH} (hF : F_X5_init l0 h = some (r, h')) : Run 1 yX5_init cX5_init 1 none [vr 5 l0] h none h' := run_of (M := M_X5_init) (by decide) rfl (fun _ => rfl) (Nat.le_of_ble_eq_true rfl) (x_X5_init_0 hF)
abbrev M_X3_init : zM := (RX3, (cX3_init, (1, (none, true))))
def F_X3_init_0 (l0 : Int) (h : zH) : zO := if 0 ≤ l0 then (zl (pt (nw (pt (nw (pt (nw h 27 60) 3 l0 0 (cn h 27)) 28 60) 3 l0 2 (cn (pt (nw h 27 60) 3 l0 0 (cn h 27)) 28)) 29 60) 3 l0 4 (cn (pt (nw (pt (nw h 27 60) 3 l0 0 (cn h 27)) 28 60) 3 l0 2 (cn (pt (nw h 27 60) 3 l0 0 (cn h 27)) 28)) 29)) (fun k2 => if 0 ≤ cn (pt (nw k2 30 8) 3 l0 6 (cn k2 30)) 7 then (zb (F_X7_init (cn (pt (nw k2 30 8) 3 l0 6 (cn k2 30)) 7) (nw (pt (nw k2 30 8) 3 l0 6 (cn k2 30)) 7 4)) (fun r3 h3 => if 0 ≤ cn (pt h3 3 l0 7 (cn (pt (nw k2 30 8) 3 l0 6 (cn k2 30)) 7)) 5 then (zb (F_X5_init (cn (pt h3 3 l0 7 (cn (pt (nw k2 30 8) 3 l0 6 (cn k2 30)) 7)) 5) (nw (pt h3 3 l0 7 (cn (pt (nw k2 30 8) 3 l0 6 (cn k2 30)) 7)) 5 5)) (fun r5 h5 => some (0, (pt h5 3 l0 8 (cn (pt h3 3 l0 7 (cn (pt (nw k2 30 8) 3 l0 6 (cn k2 30)) 7)) 5))))) else none)) else none)) else none
set_option maxHeartbeats 1000000 in
theorem x_X3_init_0 {l0 : Int} {h : zH} {r : Int} {h' : zH} (hF : F_X3_init_0 l0 h = some (r, h')) : Ex 2 M_X3_init 0 [some (vr 3 l0)] [] h (fun r1 h1 => r1 = none ∧ h1 = h') := by
  unfold F_X3_init_0 at hF
  refine ex_aload_n (q := 1) dX3_init_0 rfl rfl ?_
  obtain ⟨g1, hF⟩ := zg hF
  refine ex_obj (q := 4) dX3_init_1 rfl (by decide) g1 (by decide) (zTbl_i 103 (by decide +kernel) (by decide +kernel)) (zTbl_i 96 (by decide +kernel) (by decide +kernel)) (zTbl_i 97 rfl rfl) (Nat.le_of_ble_eq_true rfl) ?_
  refine ex_aload_n (q := 5) dX3_init_4 rfl rfl ?_
  refine ex_bipush (q := 7) dX3_init_5 rfl (by decide) ⟨by decide, by decide⟩ ?_
  refine ex_anew (q := 10) (kd := 6) (n := cn h 27) dX3_init_7 rfl kd_27 (by decide) (by decide) (zTbl_i 104 (by decide +kernel) (by decide +kernel)) (List.mem_of_getElem? (i := 105) (by decide +kernel)) rfl rfl ?_
  refine ex_putF (q := 13) 0 dX3_init_10 rfl (by decide) (by decide) (zTbl_i 150 (by decide +kernel) (by decide +kernel)) (by decide) rfl (by decide) g1 rfl rfl (fun z => by cases z) ?_
  refine ex_aload_n (q := 14) dX3_init_13 rfl rfl ?_
  refine ex_bipush (q := 16) dX3_init_14 rfl (by decide) ⟨by decide, by decide⟩ ?_
  refine ex_newa (q := 18) (n := cn (pt (nw h 27 60) 3 l0 0 (cn h 27)) 28) dX3_init_16 rfl kd_28 rfl (by decide) (by decide) (zTbl_i 126 (by decide +kernel) (by decide +kernel)) rfl rfl ?_
  refine ex_putF (q := 21) 2 dX3_init_18 rfl (by decide) (by decide) (zTbl_i 152 (by decide +kernel) (by decide +kernel)) (by decide) rfl (by decide) g1 rfl rfl (fun z => by cases z) ?_
  refine ex_aload_n (q := 22) dX3_init_21 rfl rfl ?_
  refine ex_bipush (q := 24) dX3_init_22 rfl (by decide) ⟨by decide, by decide⟩ ?_
  refine ex_newa (q := 26) (n := cn (pt (nw (pt (nw h 27 60) 3 l0 0 (cn h 27)) 28 60) 3 l0 2 (cn (pt (nw h 27 60) 3 l0 0 (cn h 27)) 28)) 29) dX3_init_24 rfl kd_29 rfl (by decide) (by decide) (zTbl_i 126 (by decide +kernel) (by decide +kernel)) rfl rfl ?_
  refine ex_putF (q := 29) 4 dX3_init_26 rfl (by decide) (by decide) (zTbl_i 154 (by decide +kernel) (by decide +kernel)) (by decide) rfl (by decide) g1 rfl rfl (fun z => by cases z) ?_
  have hF := zl_e hF
  generalize pt (nw (pt (nw (pt (nw h 27 60) 3 l0 0 (cn h 27)) 28 60) 3 l0 2 (cn (pt (nw h 27 60) 3 l0 0 (cn h 27)) 28)) 29 60) 3 l0 4 (cn (pt (nw (pt (nw h 27 60) 3 l0 0 (cn h 27)) 28 60) 3 l0 2 (cn (pt (nw h 27 60) 3 l0 0 (cn h 27)) 28)) 29) = k2 at hF ⊢
  refine ex_aload_n (q := 30) dX3_init_29 rfl rfl ?_
  refine ex_bipush (q := 32) dX3_init_30 rfl (by decide) ⟨by decide, by decide⟩ ?_
  refine ex_newa (q := 34) (n := cn k2 30) dX3_init_32 rfl kd_30 rfl (by decide) (by decide) (zTbl_i 127 (by decide +kernel) (by decide +kernel)) rfl rfl ?_
  refine ex_putF (q := 37) 6 dX3_init_34 rfl (by decide) (by decide) (zTbl_i 157 (by decide +kernel) (by decide +kernel)) (by decide) rfl (by decide) g1 rfl rfl (fun z => by cases z) ?_
  refine ex_aload_n (q := 38) dX3_init_37 rfl rfl ?_
  refine ex_new (q := 41) (c := 7) (n := cn (pt (nw k2 30 8) 3 l0 6 (cn k2 30)) 7) dX3_init_38 rfl (by decide) rfl (zTbl_i 106 (by decide +kernel) (by decide +kernel)) (zTbl_i 107 (by decide +kernel) (by decide +kernel)) (zTbl_i 78 (by decide +kernel) (by decide +kernel)) rfl ?_
  refine ex_dup (q := 42) dX3_init_41 rfl (fun _ z => by cases z) ?_
  obtain ⟨g4, hF⟩ := zg hF
  obtain ⟨r3, h3, e3, hF⟩ := zb_some hF
  refine ex_callI (d' := 1) (q := 45) (as := []) (st1 := [vr 7 (cn (pt (nw k2 30 8) 3 l0 6 (cn k2 30)) 7), vr 3 l0]) (r := none) (h2 := h3) dX3_init_42 rfl (run_X7_init e3) mc_X7_init mi_X7_init ml_X3_30 (by decide) (by decide) g4 rfl rfl (Nat.le_of_ble_eq_true rfl) rfl ?_
  refine ex_putF (q := 48) 7 dX3_init_45 rfl (by decide) (by decide) (zTbl_i 159 (by decide +kernel) (by decide +kernel)) (by decide) rfl (by decide) g1 rfl rfl (fun z => by cases z) ?_
  refine ex_aload_n (q := 49) dX3_init_48 rfl rfl ?_
  refine ex_new (q := 52) (c := 5) (n := cn (pt h3 3 l0 7 (cn (pt (nw k2 30 8) 3 l0 6 (cn k2 30)) 7)) 5) dX3_init_49 rfl (by decide) rfl (zTbl_i 128 (by decide +kernel) (by decide +kernel)) (zTbl_i 129 (by decide +kernel) (by decide +kernel)) (zTbl_i 79 (by decide +kernel) (by decide +kernel)) rfl ?_
  refine ex_dup (q := 53) dX3_init_52 rfl (fun _ z => by cases z) ?_
  obtain ⟨g6, hF⟩ := zg hF
  obtain ⟨r5, h5, e5, hF⟩ := zb_some hF
  refine ex_callI (d' := 1) (q := 56) (as := []) (st1 := [vr 5 (cn (pt h3 3 l0 7 (cn (pt (nw k2 30 8) 3 l0 6 (cn k2 30)) 7)) 5), vr 3 l0]) (r := none) (h2 := h5) dX3_init_53 rfl (run_X5_init e5) mc_X5_init mi_X5_init ml_X3_37 (by decide) (by decide) g6 rfl rfl (Nat.le_of_ble_eq_true rfl) rfl ?_
  refine ex_putF (q := 59) 8 dX3_init_56 rfl (by decide) (by decide) (zTbl_i 162 (by decide +kernel) (by decide +kernel)) (by decide) rfl (by decide) g1 rfl rfl (fun z => by cases z) ?_
  obtain ⟨rfl, rfl⟩ := zr hF
  exact ex_ret none rfl ⟨dX3_init_59, rfl⟩ ⟨rfl, rfl⟩
def F_X3_init (l0 : Int) (h : zH) : zO := F_X3_init_0 l0 h
theorem run_X3_init {l0 : Int} {h : zH} {r : Int} {h' : zH} (hF : F_X3_init l0 h = some (r, h')) : Run 2 yX3_init cX3_init 1 none [vr 3 l0] h none h' := run_of (M := M_X3_init) (by decide) rfl (fun _ => rfl) (Nat.le_of_ble_eq_true rfl) (x_X3_init_0 hF)
abbrev M_X2_init : zM := (RX2, (cX2_init, (1, (none, true))))
def F_X2_init_0 (l0 : Int) (h : zH) : zO := if 0 ≤ l0 then (zl (pt (nw (pt (nw (pt (nw h 21 16) 2 l0 0 (cn h 21)) 22 16) 2 l0 1 (cn (pt (nw h 21 16) 2 l0 0 (cn h 21)) 22)) 23 16) 2 l0 2 (cn (pt (nw (pt (nw h 21 16) 2 l0 0 (cn h 21)) 22 16) 2 l0 1 (cn (pt (nw h 21 16) 2 l0 0 (cn h 21)) 22)) 23)) (fun k2 => zl (pt (nw (pt (nw (pt (nw k2 24 16) 2 l0 3 (cn k2 24)) 25 16) 2 l0 4 (cn (pt (nw k2 24 16) 2 l0 3 (cn k2 24)) 25)) 26 16) 2 l0 5 (cn (pt (nw (pt (nw k2 24 16) 2 l0 3 (cn k2 24)) 25 16) 2 l0 4 (cn (pt (nw k2 24 16) 2 l0 3 (cn k2 24)) 25)) 26)) (fun k3 => some (0, k3)))) else none
set_option maxHeartbeats 1000000 in
theorem x_X2_init_0 {l0 : Int} {h : zH} {r : Int} {h' : zH} (hF : F_X2_init_0 l0 h = some (r, h')) : Ex 1 M_X2_init 0 [some (vr 2 l0)] [] h (fun r1 h1 => r1 = none ∧ h1 = h') := by
  unfold F_X2_init_0 at hF
  refine ex_aload_n (q := 1) dX2_init_0 rfl rfl ?_
  obtain ⟨g1, hF⟩ := zg hF
  refine ex_obj (q := 4) dX2_init_1 rfl (by decide) g1 (by decide) (zTbl_i 204 (by decide +kernel) (by decide +kernel)) (zTbl_i 96 (by decide +kernel) (by decide +kernel)) (zTbl_i 97 rfl rfl) (Nat.le_of_ble_eq_true rfl) ?_
  refine ex_aload_n (q := 5) dX2_init_4 rfl rfl ?_
  refine ex_bipush (q := 7) dX2_init_5 rfl (by decide) ⟨by decide, by decide⟩ ?_
  refine ex_newa (q := 9) (n := cn h 21) dX2_init_7 rfl kd_21 rfl (by decide) (by decide) (zTbl_i 126 (by decide +kernel) (by decide +kernel)) rfl rfl ?_
  refine ex_putF (q := 12) 0 dX2_init_9 rfl (by decide) (by decide) (zTbl_i 205 (by decide +kernel) (by decide +kernel)) (by decide) rfl (by decide) g1 rfl rfl (fun z => by cases z) ?_
  refine ex_aload_n (q := 13) dX2_init_12 rfl rfl ?_
  refine ex_bipush (q := 15) dX2_init_13 rfl (by decide) ⟨by decide, by decide⟩ ?_
  refine ex_newa (q := 17) (n := cn (pt (nw h 21 16) 2 l0 0 (cn h 21)) 22) dX2_init_15 rfl kd_22 rfl (by decide) (by decide) (zTbl_i 126 (by decide +kernel) (by decide +kernel)) rfl rfl ?_
  refine ex_putF (q := 20) 1 dX2_init_17 rfl (by decide) (by decide) (zTbl_i 206 (by decide +kernel) (by decide +kernel)) (by decide) rfl (by decide) g1 rfl rfl (fun z => by cases z) ?_
  refine ex_aload_n (q := 21) dX2_init_20 rfl rfl ?_
  refine ex_bipush (q := 23) dX2_init_21 rfl (by decide) ⟨by decide, by decide⟩ ?_
  refine ex_newa (q := 25) (n := cn (pt (nw (pt (nw h 21 16) 2 l0 0 (cn h 21)) 22 16) 2 l0 1 (cn (pt (nw h 21 16) 2 l0 0 (cn h 21)) 22)) 23) dX2_init_23 rfl kd_23 rfl (by decide) (by decide) (zTbl_i 126 (by decide +kernel) (by decide +kernel)) rfl rfl ?_
  refine ex_putF (q := 28) 2 dX2_init_25 rfl (by decide) (by decide) (zTbl_i 207 (by decide +kernel) (by decide +kernel)) (by decide) rfl (by decide) g1 rfl rfl (fun z => by cases z) ?_
  have hF := zl_e hF
  generalize pt (nw (pt (nw (pt (nw h 21 16) 2 l0 0 (cn h 21)) 22 16) 2 l0 1 (cn (pt (nw h 21 16) 2 l0 0 (cn h 21)) 22)) 23 16) 2 l0 2 (cn (pt (nw (pt (nw h 21 16) 2 l0 0 (cn h 21)) 22 16) 2 l0 1 (cn (pt (nw h 21 16) 2 l0 0 (cn h 21)) 22)) 23) = k2 at hF ⊢
  refine ex_aload_n (q := 29) dX2_init_28 rfl rfl ?_
  refine ex_bipush (q := 31) dX2_init_29 rfl (by decide) ⟨by decide, by decide⟩ ?_
  refine ex_newa (q := 33) (n := cn k2 24) dX2_init_31 rfl kd_24 rfl (by decide) (by decide) (zTbl_i 126 (by decide +kernel) (by decide +kernel)) rfl rfl ?_
  refine ex_putF (q := 36) 3 dX2_init_33 rfl (by decide) (by decide) (zTbl_i 208 (by decide +kernel) (by decide +kernel)) (by decide) rfl (by decide) g1 rfl rfl (fun z => by cases z) ?_
  refine ex_aload_n (q := 37) dX2_init_36 rfl rfl ?_
  refine ex_bipush (q := 39) dX2_init_37 rfl (by decide) ⟨by decide, by decide⟩ ?_
  refine ex_newa (q := 41) (n := cn (pt (nw k2 24 16) 2 l0 3 (cn k2 24)) 25) dX2_init_39 rfl kd_25 rfl (by decide) (by decide) (zTbl_i 126 (by decide +kernel) (by decide +kernel)) rfl rfl ?_
  refine ex_putF (q := 44) 4 dX2_init_41 rfl (by decide) (by decide) (zTbl_i 209 (by decide +kernel) (by decide +kernel)) (by decide) rfl (by decide) g1 rfl rfl (fun z => by cases z) ?_
  refine ex_aload_n (q := 45) dX2_init_44 rfl rfl ?_
  refine ex_bipush (q := 47) dX2_init_45 rfl (by decide) ⟨by decide, by decide⟩ ?_
  refine ex_newa (q := 49) (n := cn (pt (nw (pt (nw k2 24 16) 2 l0 3 (cn k2 24)) 25 16) 2 l0 4 (cn (pt (nw k2 24 16) 2 l0 3 (cn k2 24)) 25)) 26) dX2_init_47 rfl kd_26 rfl (by decide) (by decide) (zTbl_i 126 (by decide +kernel) (by decide +kernel)) rfl rfl ?_
  refine ex_putF (q := 52) 5 dX2_init_49 rfl (by decide) (by decide) (zTbl_i 210 (by decide +kernel) (by decide +kernel)) (by decide) rfl (by decide) g1 rfl rfl (fun z => by cases z) ?_
  have hF := zl_e hF
  generalize pt (nw (pt (nw (pt (nw k2 24 16) 2 l0 3 (cn k2 24)) 25 16) 2 l0 4 (cn (pt (nw k2 24 16) 2 l0 3 (cn k2 24)) 25)) 26 16) 2 l0 5 (cn (pt (nw (pt (nw k2 24 16) 2 l0 3 (cn k2 24)) 25 16) 2 l0 4 (cn (pt (nw k2 24 16) 2 l0 3 (cn k2 24)) 25)) 26) = k3 at hF ⊢
  obtain ⟨rfl, rfl⟩ := zr hF
  exact ex_ret none rfl ⟨dX2_init_52, rfl⟩ ⟨rfl, rfl⟩
def F_X2_init (l0 : Int) (h : zH) : zO := F_X2_init_0 l0 h
theorem run_X2_init {l0 : Int} {h : zH} {r : Int} {h' : zH} (hF : F_X2_init l0 h = some (r, h')) : Run 1 yX2_init cX2_init 1 none [vr 2 l0] h none h' := run_of (M := M_X2_init) (by decide) rfl (fun _ => rfl) (Nat.le_of_ble_eq_true rfl) (x_X2_init_0 hF)
abbrev M_X10_init : zM := (RX10, (cX10_init, (1, (none, true))))
def F_X10_init_0 (l0 : Int) (h : zH) : zO := if 0 ≤ l0 then (zl (pt (nw (pt (nw (pt (nw h 43 40) 10 l0 0 (cn h 43)) 44 40) 10 l0 1 (cn (pt (nw h 43 40) 10 l0 0 (cn h 43)) 44)) 45 40) 10 l0 2 (cn (pt (nw (pt (nw h 43 40) 10 l0 0 (cn h 43)) 44 40) 10 l0 1 (cn (pt (nw h 43 40) 10 l0 0 (cn h 43)) 44)) 45)) (fun k2 => zl (pt (nw (pt (nw (pt (nw k2 46 40) 10 l0 3 (cn k2 46)) 47 8) 10 l0 7 (cn (pt (nw k2 46 40) 10 l0 3 (cn k2 46)) 47)) 48 8) 10 l0 8 (cn (pt (nw (pt (nw k2 46 40) 10 l0 3 (cn k2 46)) 47 8) 10 l0 7 (cn (pt (nw k2 46 40) 10 l0 3 (cn k2 46)) 47)) 48)) (fun k3 => some (0, k3)))) else none
set_option maxHeartbeats 1000000 in
theorem x_X10_init_0 {l0 : Int} {h : zH} {r : Int} {h' : zH} (hF : F_X10_init_0 l0 h = some (r, h')) : Ex 1 M_X10_init 0 [some (vr 10 l0)] [] h (fun r1 h1 => r1 = none ∧ h1 = h') := by
  unfold F_X10_init_0 at hF
  refine ex_aload_n (q := 1) dX10_init_0 rfl rfl ?_
  obtain ⟨g1, hF⟩ := zg hF
  refine ex_obj (q := 4) dX10_init_1 rfl (by decide) g1 (by decide) (zTbl_i 234 (by decide +kernel) (by decide +kernel)) (zTbl_i 96 (by decide +kernel) (by decide +kernel)) (zTbl_i 97 rfl rfl) (Nat.le_of_ble_eq_true rfl) ?_
  refine ex_aload_n (q := 5) dX10_init_4 rfl rfl ?_
  refine ex_bipush (q := 7) dX10_init_5 rfl (by decide) ⟨by decide, by decide⟩ ?_
  refine ex_newa (q := 9) (n := cn h 43) dX10_init_7 rfl kd_43 rfl (by decide) (by decide) (zTbl_i 126 (by decide +kernel) (by decide +kernel)) rfl rfl ?_
  refine ex_putF (q := 12) 0 dX10_init_9 rfl (by decide) (by decide) (zTbl_i 235 (by decide +kernel) (by decide +kernel)) (by decide) rfl (by decide) g1 rfl rfl (fun z => by cases z) ?_
  refine ex_aload_n (q := 13) dX10_init_12 rfl rfl ?_
  refine ex_bipush (q := 15) dX10_init_13 rfl (by decide) ⟨by decide, by decide⟩ ?_
  refine ex_newa (q := 17) (n := cn (pt (nw h 43 40) 10 l0 0 (cn h 43)) 44) dX10_init_15 rfl kd_44 rfl (by decide) (by decide) (zTbl_i 126 (by decide +kernel) (by decide +kernel)) rfl rfl ?_
  refine ex_putF (q := 20) 1 dX10_init_17 rfl (by decide) (by decide) (zTbl_i 236 (by decide +kernel) (by decide +kernel)) (by decide) rfl (by decide) g1 rfl rfl (fun z => by cases z) ?_
  refine ex_aload_n (q := 21) dX10_init_20 rfl rfl ?_
  refine ex_bipush (q := 23) dX10_init_21 rfl (by decide) ⟨by decide, by decide⟩ ?_
  refine ex_newa (q := 25) (n := cn (pt (nw (pt (nw h 43 40) 10 l0 0 (cn h 43)) 44 40) 10 l0 1 (cn (pt (nw h 43 40) 10 l0 0 (cn h 43)) 44)) 45) dX10_init_23 rfl kd_45 rfl (by decide) (by decide) (zTbl_i 126 (by decide +kernel) (by decide +kernel)) rfl rfl ?_
  refine ex_putF (q := 28) 2 dX10_init_25 rfl (by decide) (by decide) (zTbl_i 237 (by decide +kernel) (by decide +kernel)) (by decide) rfl (by decide) g1 rfl rfl (fun z => by cases z) ?_
  have hF := zl_e hF
  generalize pt (nw (pt (nw (pt (nw h 43 40) 10 l0 0 (cn h 43)) 44 40) 10 l0 1 (cn (pt (nw h 43 40) 10 l0 0 (cn h 43)) 44)) 45 40) 10 l0 2 (cn (pt (nw (pt (nw h 43 40) 10 l0 0 (cn h 43)) 44 40) 10 l0 1 (cn (pt (nw h 43 40) 10 l0 0 (cn h 43)) 44)) 45) = k2 at hF ⊢
  refine ex_aload_n (q := 29) dX10_init_28 rfl rfl ?_
  refine ex_bipush (q := 31) dX10_init_29 rfl (by decide) ⟨by decide, by decide⟩ ?_
  refine ex_newa (q := 33) (n := cn k2 46) dX10_init_31 rfl kd_46 rfl (by decide) (by decide) (zTbl_i 126 (by decide +kernel) (by decide +kernel)) rfl rfl ?_
  refine ex_putF (q := 36) 3 dX10_init_33 rfl (by decide) (by decide) (zTbl_i 238 (by decide +kernel) (by decide +kernel)) (by decide) rfl (by decide) g1 rfl rfl (fun z => by cases z) ?_
  refine ex_aload_n (q := 37) dX10_init_36 rfl rfl ?_
  refine ex_bipush (q := 39) dX10_init_37 rfl (by decide) ⟨by decide, by decide⟩ ?_
  refine ex_newa (q := 41) (n := cn (pt (nw k2 46 40) 10 l0 3 (cn k2 46)) 47) dX10_init_39 rfl kd_47 rfl (by decide) (by decide) (zTbl_i 126 (by decide +kernel) (by decide +kernel)) rfl rfl ?_
  refine ex_putF (q := 44) 7 dX10_init_41 rfl (by decide) (by decide) (zTbl_i 242 (by decide +kernel) (by decide +kernel)) (by decide) rfl (by decide) g1 rfl rfl (fun z => by cases z) ?_
  refine ex_aload_n (q := 45) dX10_init_44 rfl rfl ?_
  refine ex_bipush (q := 47) dX10_init_45 rfl (by decide) ⟨by decide, by decide⟩ ?_
  refine ex_newa (q := 49) (n := cn (pt (nw (pt (nw k2 46 40) 10 l0 3 (cn k2 46)) 47 8) 10 l0 7 (cn (pt (nw k2 46 40) 10 l0 3 (cn k2 46)) 47)) 48) dX10_init_47 rfl kd_48 rfl (by decide) (by decide) (zTbl_i 126 (by decide +kernel) (by decide +kernel)) rfl rfl ?_
  refine ex_putF (q := 52) 8 dX10_init_49 rfl (by decide) (by decide) (zTbl_i 243 (by decide +kernel) (by decide +kernel)) (by decide) rfl (by decide) g1 rfl rfl (fun z => by cases z) ?_
  have hF := zl_e hF
  generalize pt (nw (pt (nw (pt (nw k2 46 40) 10 l0 3 (cn k2 46)) 47 8) 10 l0 7 (cn (pt (nw k2 46 40) 10 l0 3 (cn k2 46)) 47)) 48 8) 10 l0 8 (cn (pt (nw (pt (nw k2 46 40) 10 l0 3 (cn k2 46)) 47 8) 10 l0 7 (cn (pt (nw k2 46 40) 10 l0 3 (cn k2 46)) 47)) 48) = k3 at hF ⊢
  obtain ⟨rfl, rfl⟩ := zr hF
  exact ex_ret none rfl ⟨dX10_init_52, rfl⟩ ⟨rfl, rfl⟩
def F_X10_init (l0 : Int) (h : zH) : zO := F_X10_init_0 l0 h
theorem run_X10_init {l0 : Int} {h : zH} {r : Int} {h' : zH} (hF : F_X10_init l0 h = some (r, h')) : Run 1 yX10_init cX10_init 1 none [vr 10 l0] h none h' := run_of (M := M_X10_init) (by decide) rfl (fun _ => rfl) (Nat.le_of_ble_eq_true rfl) (x_X10_init_0 hF)
abbrev M_X1_init : zM := (RX1, (cX1_init, (2, (none, true))))
def F_X1_init_0 (l0 l1 : Int) (h : zH) : zO := if 0 ≤ l0 then (some (0, (pt (pt (nw h 20 8) 1 l0 3 (cn h 20)) 1 l0 0 l1))) else none
set_option maxHeartbeats 1000000 in
theorem x_X1_init_0 {l0 l1 : Int} {h : zH} {r : Int} {h' : zH} (hF : F_X1_init_0 l0 l1 h = some (r, h')) : Ex 1 M_X1_init 0 [some (vr 1 l0), some (vr 10 l1)] [] h (fun r1 h1 => r1 = none ∧ h1 = h') := by
  unfold F_X1_init_0 at hF
  refine ex_aload_n (q := 1) dX1_init_0 rfl rfl ?_
  obtain ⟨g1, hF⟩ := zg hF
  refine ex_obj (q := 4) dX1_init_1 rfl (by decide) g1 (by decide) (zTbl_i 270 (by decide +kernel) (by decide +kernel)) (zTbl_i 96 (by decide +kernel) (by decide +kernel)) (zTbl_i 97 rfl rfl) (Nat.le_of_ble_eq_true rfl) ?_
  refine ex_aload_n (q := 5) dX1_init_4 rfl rfl ?_
  refine ex_bipush (q := 7) dX1_init_5 rfl (by decide) ⟨by decide, by decide⟩ ?_
  refine ex_anew (q := 10) (kd := 4) (n := cn h 20) dX1_init_7 rfl kd_20 (by decide) (by decide) (zTbl_i 271 (by decide +kernel) (by decide +kernel)) (List.mem_of_getElem? (i := 198) (by decide +kernel)) rfl rfl ?_
  refine ex_putF (q := 13) 3 dX1_init_10 rfl (by decide) (by decide) (zTbl_i 278 (by decide +kernel) (by decide +kernel)) (by decide) rfl (by decide) g1 rfl rfl (fun z => by cases z) ?_
  refine ex_aload_n (q := 14) dX1_init_13 rfl rfl ?_
  refine ex_aload_n (q := 15) dX1_init_14 rfl rfl ?_
  refine ex_put (q := 18) 0 dX1_init_15 rfl fl_X1_17 (by decide) g1 rfl rfl (fun z => by cases z) ?_
  obtain ⟨rfl, rfl⟩ := zr hF
  exact ex_ret none rfl ⟨dX1_init_18, rfl⟩ ⟨rfl, rfl⟩
def F_X1_init (l0 l1 : Int) (h : zH) : zO := F_X1_init_0 l0 l1 h
theorem run_X1_init {l0 l1 : Int} {h : zH} {r : Int} {h' : zH} (hF : F_X1_init l0 l1 h = some (r, h')) : Run 1 yX1_init cX1_init 2 none [vr 1 l0, vr 10 l1] h none h' := run_of (M := M_X1_init) (by decide) rfl (fun _ => rfl) (Nat.le_of_ble_eq_true rfl) (x_X1_init_0 hF)
abbrev M_X0_init : zM := (RX0, (cX0_init, (1, (none, true))))
def F_X0_init_0 (l0 : Int) (h : zH) : zO := if 0 ≤ l0 then (some (0, h)) else none
set_option maxHeartbeats 1000000 in
theorem x_X0_init_0 {l0 : Int} {h : zH} {r : Int} {h' : zH} (hF : F_X0_init_0 l0 h = some (r, h')) : Ex 1 M_X0_init 0 [some (vr 0 l0)] [] h (fun r1 h1 => r1 = none ∧ h1 = h') := by
  unfold F_X0_init_0 at hF
  refine ex_aload_n (q := 1) dX0_init_0 rfl rfl ?_
  obtain ⟨g1, hF⟩ := zg hF
  refine ex_obj (q := 4) dX0_init_1 rfl (by decide) g1 (by decide) (zTbl_i 292 (by decide +kernel) (by decide +kernel)) (zTbl_i 96 (by decide +kernel) (by decide +kernel)) (zTbl_i 97 rfl rfl) (Nat.le_of_ble_eq_true rfl) ?_
  obtain ⟨rfl, rfl⟩ := zr hF
  exact ex_ret none rfl ⟨dX0_init_4, rfl⟩ ⟨rfl, rfl⟩
def F_X0_init (l0 : Int) (h : zH) : zO := F_X0_init_0 l0 h
theorem run_X0_init {l0 : Int} {h : zH} {r : Int} {h' : zH} (hF : F_X0_init l0 h = some (r, h')) : Run 1 yX0_init cX0_init 1 none [vr 0 l0] h none h' := run_of (M := M_X0_init) (by decide) rfl (fun _ => rfl) (Nat.le_of_ble_eq_true rfl) (x_X0_init_0 hF)
abbrev M_X9_init : zM := (RX9, (cX9_init, (1, (none, true))))
def F_X9_init_0 (l0 : Int) (h : zH) : zO := if 0 ≤ l0 then (some (0, h)) else none
set_option maxHeartbeats 1000000 in
theorem x_X9_init_0 {l0 : Int} {h : zH} {r : Int} {h' : zH} (hF : F_X9_init_0 l0 h = some (r, h')) : Ex 1 M_X9_init 0 [some (vr 9 l0)] [] h (fun r1 h1 => r1 = none ∧ h1 = h') := by
  unfold F_X9_init_0 at hF
  refine ex_aload_n (q := 1) dX9_init_0 rfl rfl ?_
  obtain ⟨g1, hF⟩ := zg hF
  refine ex_obj (q := 4) dX9_init_1 rfl (by decide) g1 (by decide) (zTbl_i 326 (by decide +kernel) (by decide +kernel)) (zTbl_i 96 (by decide +kernel) (by decide +kernel)) (zTbl_i 97 rfl rfl) (Nat.le_of_ble_eq_true rfl) ?_
  obtain ⟨rfl, rfl⟩ := zr hF
  exact ex_ret none rfl ⟨dX9_init_4, rfl⟩ ⟨rfl, rfl⟩
def F_X9_init (l0 : Int) (h : zH) : zO := F_X9_init_0 l0 h
theorem run_X9_init {l0 : Int} {h : zH} {r : Int} {h' : zH} (hF : F_X9_init l0 h = some (r, h')) : Run 1 yX9_init cX9_init 1 none [vr 9 l0] h none h' := run_of (M := M_X9_init) (by decide) rfl (fun _ => rfl) (Nat.le_of_ble_eq_true rfl) (x_X9_init_0 hF)
abbrev M_X4_init : zM := (RX4, (cX4_init, (1, (none, true))))
def F_X4_init_0 (l0 : Int) (h : zH) : zO := if 0 ≤ l0 then (some (0, h)) else none
set_option maxHeartbeats 1000000 in
theorem x_X4_init_0 {l0 : Int} {h : zH} {r : Int} {h' : zH} (hF : F_X4_init_0 l0 h = some (r, h')) : Ex 1 M_X4_init 0 [some (vr 4 l0)] [] h (fun r1 h1 => r1 = none ∧ h1 = h') := by
  unfold F_X4_init_0 at hF
  refine ex_aload_n (q := 1) dX4_init_0 rfl rfl ?_
  obtain ⟨g1, hF⟩ := zg hF
  refine ex_obj (q := 4) dX4_init_1 rfl (by decide) g1 (by decide) (zTbl_i 345 (by decide +kernel) (by decide +kernel)) (zTbl_i 96 (by decide +kernel) (by decide +kernel)) (zTbl_i 97 rfl rfl) (Nat.le_of_ble_eq_true rfl) ?_
  obtain ⟨rfl, rfl⟩ := zr hF
  exact ex_ret none rfl ⟨dX4_init_4, rfl⟩ ⟨rfl, rfl⟩
def F_X4_init (l0 : Int) (h : zH) : zO := F_X4_init_0 l0 h
theorem run_X4_init {l0 : Int} {h : zH} {r : Int} {h' : zH} (hF : F_X4_init l0 h = some (r, h')) : Run 1 yX4_init cX4_init 1 none [vr 4 l0] h none h' := run_of (M := M_X4_init) (by decide) rfl (fun _ => rfl) (Nat.le_of_ble_eq_true rfl) (x_X4_init_0 hF)
abbrev M_X8_init : zM := (RX8, (cX8_init, (5, (none, true))))
def F_X8_init_159b (ag159 : Int → Int → zH → zO) (l0 l4 : Int) (h : zH) : zO := if 0 ≤ l0 then (if 0 ≤ gt h 8 l0 8 then (if 160 ≤ l4 then (some (0, h)) else (if 0 ≤ cn h 4 then (zb (F_X4_init (cn h 4) (nw h 4 8)) (fun r4 h4 => if 0 ≤ l4 ∧ l4 < 160 then (ag159 l0 (wI (l4 + 1)) (pt h4 42 (gt h 8 l0 8) l4 (cn h 4))) else none)) else none)) else none) else none
set_option maxHeartbeats 1000000 in
theorem x_X8_init_159b {ag159 : Int → Int → zH → zO} (hag159 : ∀ (l0 l4 : Int) (h : zH) (r : Int) (h' : zH), ag159 l0 l4 h = some (r, h') → Ex 2 M_X8_init 159 [some (vr 8 l0), none, none, none, some (vi l4)] [] h (fun r1 h1 => r1 = none ∧ h1 = h')) {l0 l4 : Int} {h : zH} {r : Int} {h' : zH} (hF : F_X8_init_159b ag159 l0 l4 h = some (r, h')) : Ex 2 M_X8_init 159 [some (vr 8 l0), none, none, none, some (vi l4)] [] h (fun r1 h1 => r1 = none ∧ h1 = h') := by
  unfold F_X8_init_159b at hF
  refine ex_iload (q := 161) dX8_init_159 rfl rfl ?_
  refine ex_aload_n (q := 162) dX8_init_161 rfl rfl ?_
  obtain ⟨g1, hF⟩ := zg hF
  refine ex_get (q := 165) (v := vr 42 (gt h 8 l0 8)) 8 dX8_init_162 rfl fl_X8_31 g1 rfl rfl ?_
  obtain ⟨g2, hF⟩ := zg hF
  refine ex_alen (q := 166) (x := 160) dX8_init_165 rfl kd_42 g2 rfl ?_
  refine ex_icmp_ge (q := 169) (tgt := 189) dX8_init_166 rfl (by decide) (fun c3 => ?_) (fun c3 => ?_)
  · have hF := ip c3 hF
    obtain ⟨rfl, rfl⟩ := zr hF
    exact ex_ret none rfl ⟨dX8_init_189, rfl⟩ ⟨rfl, rfl⟩
  · have hF := im c3 hF
    refine ex_aload_n (q := 170) dX8_init_169 rfl rfl ?_
    refine ex_get (q := 173) (v := vr 42 (gt h 8 l0 8)) 8 dX8_init_170 rfl fl_X8_31 g1 rfl rfl ?_
    refine ex_iload (q := 175) dX8_init_173 rfl rfl ?_
    refine ex_new (q := 178) (c := 4) (n := cn h 4) dX8_init_175 rfl (by decide) rfl (zTbl_i 197 (by decide +kernel) (by decide +kernel)) (zTbl_i 341 (by decide +kernel) (by decide +kernel)) (zTbl_i 86 (by decide +kernel) (by decide +kernel)) rfl ?_
    refine ex_dup (q := 179) dX8_init_178 rfl (fun _ z => by cases z) ?_
    obtain ⟨g5, hF⟩ := zg hF
    obtain ⟨r4, h4, e4, hF⟩ := zb_some hF
    refine ex_callI (d' := 1) (q := 182) (as := []) (st1 := [vr 4 (cn h 4), vi l4, vr 42 (gt h 8 l0 8)]) (r := none) (h2 := h4) dX8_init_179 rfl (run_X4_init e4) mc_X4_init mi_X4_init ml_X8_62 (by decide) (by decide) g5 rfl rfl (Nat.le_of_ble_eq_true rfl) rfl ?_
    obtain ⟨g6, hF⟩ := zg hF
    refine ex_aast (q := 183) (kd := 4) dX8_init_182 rfl kd_42 (by decide) g2 g6.1 g6.2 ?_
    refine ex_iinc (q := 186) (lo' := [some (vr 8 l0), none, none, none, some (vi (wI (l4 + 1)))]) dX8_init_183 rfl rfl (by decide) rfl rfl ?_
    refine ex_goto (q := 159) dX8_init_186 (by decide) ?_
    exact ex_forget (lo' := [some (vr 8 l0), none, none, none, some (vi (wI (l4 + 1)))]) ⟨Or.inr rfl, Or.inl rfl, Or.inl rfl, Or.inl rfl, Or.inr rfl, trivial⟩ (hag159 _ _ _ _ _ hF)
def F_X8_init_159 : Nat → Int → Int → zH → zO
  | 0, _, _, _ => none
  | n + 1, l0, l4, h => F_X8_init_159b (F_X8_init_159 n) l0 l4 h
theorem x_X8_init_159 : ∀ (n : Nat) (l0 l4 : Int) (h : zH) (r : Int) (h' : zH), F_X8_init_159 n l0 l4 h = some (r, h') → Ex 2 M_X8_init 159 [some (vr 8 l0), none, none, none, some (vi l4)] [] h (fun r1 h1 => r1 = none ∧ h1 = h')
  | 0, _, _, _, _, _, hF => by cases hF
  | n + 1, _, _, _, _, _, hF => x_X8_init_159b (x_X8_init_159 n) hF
def F_X8_init_112b (ag112 : Int → Int → zH → zO) (l0 l4 : Int) (h : zH) : zO := if 0 ≤ l0 then (if 0 ≤ gt h 8 l0 4 then (if 91 ≤ l4 then (F_X8_init_159 zF l0 0 h) else (if 0 ≤ cn h 0 then (zb (F_X0_init (cn h 0) (nw h 0 7)) (fun r4 h4 => if 0 ≤ l4 ∧ l4 < 91 then (if 0 ≤ cn (pt h4 40 (gt h 8 l0 4) l4 (cn h 0)) 9 then (zb (F_X9_init (cn (pt h4 40 (gt h 8 l0 4) l4 (cn h 0)) 9) (nw (pt h4 40 (gt h 8 l0 4) l4 (cn h 0)) 9 3)) (fun r7 h7 => if 0 ≤ gt (pt h4 40 (gt h 8 l0 4) l4 (cn h 0)) 8 l0 6 then (ag112 l0 (wI (l4 + 1)) (pt h7 41 (gt (pt h4 40 (gt h 8 l0 4) l4 (cn h 0)) 8 l0 6) l4 (cn (pt h4 40 (gt h 8 l0 4) l4 (cn h 0)) 9))) else none)) else none) else none)) else none)) else none) else none
set_option maxHeartbeats 1000000 in
theorem x_X8_init_112b {ag112 : Int → Int → zH → zO} (hag112 : ∀ (l0 l4 : Int) (h : zH) (r : Int) (h' : zH), ag112 l0 l4 h = some (r, h') → Ex 2 M_X8_init 112 [some (vr 8 l0), none, none, none, some (vi l4)] [] h (fun r1 h1 => r1 = none ∧ h1 = h')) {l0 l4 : Int} {h : zH} {r : Int} {h' : zH} (hF : F_X8_init_112b ag112 l0 l4 h = some (r, h')) : Ex 2 M_X8_init 112 [some (vr 8 l0), none, none, none, some (vi l4)] [] h (fun r1 h1 => r1 = none ∧ h1 = h') := by
  unfold F_X8_init_112b at hF
  refine ex_iload (q := 114) dX8_init_112 rfl rfl ?_
  refine ex_aload_n (q := 115) dX8_init_114 rfl rfl ?_
  obtain ⟨g1, hF⟩ := zg hF
  refine ex_get (q := 118) (v := vr 40 (gt h 8 l0 4)) 4 dX8_init_115 rfl fl_X8_19 g1 rfl rfl ?_
  obtain ⟨g2, hF⟩ := zg hF
  refine ex_alen (q := 119) (x := 91) dX8_init_118 rfl kd_40 g2 rfl ?_
  refine ex_icmp_ge (q := 122) (tgt := 156) dX8_init_119 rfl (by decide) (fun c3 => ?_) (fun c3 => ?_)
  · have hF := ip c3 hF
    refine ex_iconst (q := 157) dX8_init_156 rfl ⟨by decide, by decide⟩ ?_
    refine ex_istore (q := 159) (lo' := [some (vr 8 l0), none, none, none, some (vi 0)]) dX8_init_157 rfl (by decide) rfl rfl ?_
    exact ex_forget (lo' := [some (vr 8 l0), none, none, none, some (vi 0)]) ⟨Or.inr rfl, Or.inl rfl, Or.inl rfl, Or.inl rfl, Or.inr rfl, trivial⟩ (x_X8_init_159 _ _ _ _ _ _ hF)
  · have hF := im c3 hF
    refine ex_aload_n (q := 123) dX8_init_122 rfl rfl ?_
    refine ex_get (q := 126) (v := vr 40 (gt h 8 l0 4)) 4 dX8_init_123 rfl fl_X8_19 g1 rfl rfl ?_
    refine ex_iload (q := 128) dX8_init_126 rfl rfl ?_
    refine ex_new (q := 131) (c := 0) (n := cn h 0) dX8_init_128 rfl (by decide) rfl (zTbl_i 193 (by decide +kernel) (by decide +kernel)) (zTbl_i 288 (by decide +kernel) (by decide +kernel)) (zTbl_i 84 (by decide +kernel) (by decide +kernel)) rfl ?_
    refine ex_dup (q := 132) dX8_init_131 rfl (fun _ z => by cases z) ?_
    obtain ⟨g5, hF⟩ := zg hF
    obtain ⟨r4, h4, e4, hF⟩ := zb_some hF
    refine ex_callI (d' := 1) (q := 135) (as := []) (st1 := [vr 0 (cn h 0), vi l4, vr 40 (gt h 8 l0 4)]) (r := none) (h2 := h4) dX8_init_132 rfl (run_X0_init e4) mc_X0_init mi_X0_init ml_X8_60 (by decide) (by decide) g5 rfl rfl (Nat.le_of_ble_eq_true rfl) rfl ?_
    obtain ⟨g6, hF⟩ := zg hF
    refine ex_aast (q := 136) (kd := 0) dX8_init_135 rfl kd_40 (by decide) g2 g6.1 g6.2 ?_
    refine ex_aload_n (q := 137) dX8_init_136 rfl rfl ?_
    refine ex_get (q := 140) (v := vr 41 (gt (pt h4 40 (gt h 8 l0 4) l4 (cn h 0)) 8 l0 6)) 6 dX8_init_137 rfl fl_X8_25 g1 rfl rfl ?_
    refine ex_iload (q := 142) dX8_init_140 rfl rfl ?_
    refine ex_new (q := 145) (c := 9) (n := cn (pt h4 40 (gt h 8 l0 4) l4 (cn h 0)) 9) dX8_init_142 rfl (by decide) rfl (zTbl_i 195 (by decide +kernel) (by decide +kernel)) (zTbl_i 322 (by decide +kernel) (by decide +kernel)) (zTbl_i 85 (by decide +kernel) (by decide +kernel)) rfl ?_
    refine ex_dup (q := 146) dX8_init_145 rfl (fun _ z => by cases z) ?_
    obtain ⟨g8, hF⟩ := zg hF
    obtain ⟨r7, h7, e7, hF⟩ := zb_some hF
    refine ex_callI (d' := 1) (q := 149) (as := []) (st1 := [vr 9 (cn (pt h4 40 (gt h 8 l0 4) l4 (cn h 0)) 9), vi l4, vr 41 (gt (pt h4 40 (gt h 8 l0 4) l4 (cn h 0)) 8 l0 6)]) (r := none) (h2 := h7) dX8_init_146 rfl (run_X9_init e7) mc_X9_init mi_X9_init ml_X8_61 (by decide) (by decide) g8 rfl rfl (Nat.le_of_ble_eq_true rfl) rfl ?_
    obtain ⟨g9, hF⟩ := zg hF
    refine ex_aast (q := 150) (kd := 9) dX8_init_149 rfl kd_41 (by decide) g9 g6.1 g6.2 ?_
    refine ex_iinc (q := 153) (lo' := [some (vr 8 l0), none, none, none, some (vi (wI (l4 + 1)))]) dX8_init_150 rfl rfl (by decide) rfl rfl ?_
    refine ex_goto (q := 112) dX8_init_153 (by decide) ?_
    exact ex_forget (lo' := [some (vr 8 l0), none, none, none, some (vi (wI (l4 + 1)))]) ⟨Or.inr rfl, Or.inl rfl, Or.inl rfl, Or.inl rfl, Or.inr rfl, trivial⟩ (hag112 _ _ _ _ _ hF)
def F_X8_init_112 : Nat → Int → Int → zH → zO
  | 0, _, _, _ => none
  | n + 1, l0, l4, h => F_X8_init_112b (F_X8_init_112 n) l0 l4 h
theorem x_X8_init_112 : ∀ (n : Nat) (l0 l4 : Int) (h : zH) (r : Int) (h' : zH), F_X8_init_112 n l0 l4 h = some (r, h') → Ex 2 M_X8_init 112 [some (vr 8 l0), none, none, none, some (vi l4)] [] h (fun r1 h1 => r1 = none ∧ h1 = h')
  | 0, _, _, _, _, _, hF => by cases hF
  | n + 1, _, _, _, _, _, hF => x_X8_init_112b (x_X8_init_112 n) hF
def F_X8_init_78b (ag78 : Int → Int → Int → zH → zO) (l0 l3 l4 : Int) (h : zH) : zO := if 0 ≤ l0 then (if 0 ≤ gt h 8 l0 2 then (if 11 ≤ l4 then (F_X8_init_112 zF l0 0 h) else (if 0 ≤ cn h 1 then (zb (F_X1_init (cn h 1) l3 (nw h 1 4)) (fun r4 h4 => if 0 ≤ l4 ∧ l4 < 11 then (ag78 l0 l3 (wI (l4 + 1)) (pt h4 39 (gt h 8 l0 2) l4 (cn h 1))) else none)) else none)) else none) else none
set_option maxHeartbeats 1000000 in
theorem x_X8_init_78b {ag78 : Int → Int → Int → zH → zO} (hag78 : ∀ (l0 l3 l4 : Int) (h : zH) (r : Int) (h' : zH), ag78 l0 l3 l4 h = some (r, h') → Ex 2 M_X8_init 78 [some (vr 8 l0), none, none, some (vr 10 l3), some (vi l4)] [] h (fun r1 h1 => r1 = none ∧ h1 = h')) {l0 l3 l4 : Int} {h : zH} {r : Int} {h' : zH} (hF : F_X8_init_78b ag78 l0 l3 l4 h = some (r, h')) : Ex 2 M_X8_init 78 [some (vr 8 l0), none, none, some (vr 10 l3), some (vi l4)] [] h (fun r1 h1 => r1 = none ∧ h1 = h') := by
  unfold F_X8_init_78b at hF
  refine ex_iload (q := 80) dX8_init_78 rfl rfl ?_
  refine ex_aload_n (q := 81) dX8_init_80 rfl rfl ?_
  obtain ⟨g1, hF⟩ := zg hF
  refine ex_get (q := 84) (v := vr 39 (gt h 8 l0 2)) 2 dX8_init_81 rfl fl_X8_11 g1 rfl rfl ?_
  obtain ⟨g2, hF⟩ := zg hF
  refine ex_alen (q := 85) (x := 11) dX8_init_84 rfl kd_39 g2 rfl ?_
  refine ex_icmp_ge (q := 88) (tgt := 109) dX8_init_85 rfl (by decide) (fun c3 => ?_) (fun c3 => ?_)
  · have hF := ip c3 hF
    refine ex_iconst (q := 110) dX8_init_109 rfl ⟨by decide, by decide⟩ ?_
    refine ex_istore (q := 112) (lo' := [some (vr 8 l0), none, none, some (vr 10 l3), some (vi 0)]) dX8_init_110 rfl (by decide) rfl rfl ?_
    exact ex_forget (lo' := [some (vr 8 l0), none, none, none, some (vi 0)]) ⟨Or.inr rfl, Or.inl rfl, Or.inl rfl, Or.inl rfl, Or.inr rfl, trivial⟩ (x_X8_init_112 _ _ _ _ _ _ hF)
  · have hF := im c3 hF
    refine ex_aload_n (q := 89) dX8_init_88 rfl rfl ?_
    refine ex_get (q := 92) (v := vr 39 (gt h 8 l0 2)) 2 dX8_init_89 rfl fl_X8_11 g1 rfl rfl ?_
    refine ex_iload (q := 94) dX8_init_92 rfl rfl ?_
    refine ex_new (q := 97) (c := 1) (n := cn h 1) dX8_init_94 rfl (by decide) rfl (zTbl_i 191 (by decide +kernel) (by decide +kernel)) (zTbl_i 266 (by decide +kernel) (by decide +kernel)) (zTbl_i 83 (by decide +kernel) (by decide +kernel)) rfl ?_
    refine ex_dup (q := 98) dX8_init_97 rfl (fun _ z => by cases z) ?_
    refine ex_aload_n (q := 99) dX8_init_98 rfl rfl ?_
    obtain ⟨g5, hF⟩ := zg hF
    obtain ⟨r4, h4, e4, hF⟩ := zb_some hF
    refine ex_callI (d' := 1) (q := 102) (as := [vr 10 l3]) (st1 := [vr 1 (cn h 1), vi l4, vr 39 (gt h 8 l0 2)]) (r := none) (h2 := h4) dX8_init_99 rfl (run_X1_init e4) mc_X1_init mi_X1_init ml_X8_57 (by decide) (by decide) g5 rfl rfl (Nat.le_of_ble_eq_true rfl) rfl ?_
    obtain ⟨g6, hF⟩ := zg hF
    refine ex_aast (q := 103) (kd := 1) dX8_init_102 rfl kd_39 (by decide) g2 g6.1 g6.2 ?_
    refine ex_iinc (q := 106) (lo' := [some (vr 8 l0), none, none, some (vr 10 l3), some (vi (wI (l4 + 1)))]) dX8_init_103 rfl rfl (by decide) rfl rfl ?_
    refine ex_goto (q := 78) dX8_init_106 (by decide) ?_
    exact ex_forget (lo' := [some (vr 8 l0), none, none, some (vr 10 l3), some (vi (wI (l4 + 1)))]) ⟨Or.inr rfl, Or.inl rfl, Or.inl rfl, Or.inr rfl, Or.inr rfl, trivial⟩ (hag78 _ _ _ _ _ _ hF)
def F_X8_init_78 : Nat → Int → Int → Int → zH → zO
  | 0, _, _, _, _ => none
  | n + 1, l0, l3, l4, h => F_X8_init_78b (F_X8_init_78 n) l0 l3 l4 h
theorem x_X8_init_78 : ∀ (n : Nat) (l0 l3 l4 : Int) (h : zH) (r : Int) (h' : zH), F_X8_init_78 n l0 l3 l4 h = some (r, h') → Ex 2 M_X8_init 78 [some (vr 8 l0), none, none, some (vr 10 l3), some (vi l4)] [] h (fun r1 h1 => r1 = none ∧ h1 = h')
  | 0, _, _, _, _, _, _, hF => by cases hF
  | n + 1, _, _, _, _, _, _, hF => x_X8_init_78b (x_X8_init_78 n) hF
def F_X8_init_0 (l0 l1 l2 : Int) (h : zH) : zO := if 0 ≤ l0 then (zl (pt (nw (pt (nw (pt (nw h 39 11) 8 l0 2 (cn h 39)) 40 91) 8 l0 4 (cn (pt (nw h 39 11) 8 l0 2 (cn h 39)) 40)) 41 91) 8 l0 6 (cn (pt (nw (pt (nw h 39 11) 8 l0 2 (cn h 39)) 40 91) 8 l0 4 (cn (pt (nw h 39 11) 8 l0 2 (cn h 39)) 40)) 41)) (fun k2 => if 0 ≤ cn (pt (nw k2 42 160) 8 l0 8 (cn k2 42)) 2 then (zb (F_X2_init (cn (pt (nw k2 42 160) 8 l0 8 (cn k2 42)) 2) (nw (pt (nw k2 42 160) 8 l0 8 (cn k2 42)) 2 7)) (fun r3 h3 => if 0 ≤ cn (pt (pt (pt (pt h3 8 l0 10 (cn (pt (nw k2 42 160) 8 l0 8 (cn k2 42)) 2)) 8 l0 13 (-1)) 8 l0 0 l1) 8 l0 1 l2) 10 then (zb (F_X10_init (cn (pt (pt (pt (pt h3 8 l0 10 (cn (pt (nw k2 42 160) 8 l0 8 (cn k2 42)) 2)) 8 l0 13 (-1)) 8 l0 0 l1) 8 l0 1 l2) 10) (nw (pt (pt (pt (pt h3 8 l0 10 (cn (pt (nw k2 42 160) 8 l0 8 (cn k2 42)) 2)) 8 l0 13 (-1)) 8 l0 0 l1) 8 l0 1 l2) 10 10)) (fun r5 h5 => F_X8_init_78 zF l0 (cn (pt (pt (pt (pt h3 8 l0 10 (cn (pt (nw k2 42 160) 8 l0 8 (cn k2 42)) 2)) 8 l0 13 (-1)) 8 l0 0 l1) 8 l0 1 l2) 10) 0 h5)) else none)) else none)) else none
set_option maxHeartbeats 1000000 in
theorem x_X8_init_0 {l0 l1 l2 : Int} {h : zH} {r : Int} {h' : zH} (hF : F_X8_init_0 l0 l1 l2 h = some (r, h')) : Ex 2 M_X8_init 0 [some (vr 8 l0), some (vr 3 l1), some (vr 49 l2), none, none] [] h (fun r1 h1 => r1 = none ∧ h1 = h') := by
  unfold F_X8_init_0 at hF
  refine ex_aload_n (q := 1) dX8_init_0 rfl rfl ?_
  obtain ⟨g1, hF⟩ := zg hF
  refine ex_obj (q := 4) dX8_init_1 rfl (by decide) g1 (by decide) (zTbl_i 190 (by decide +kernel) (by decide +kernel)) (zTbl_i 96 (by decide +kernel) (by decide +kernel)) (zTbl_i 97 rfl rfl) (Nat.le_of_ble_eq_true rfl) ?_
  refine ex_aload_n (q := 5) dX8_init_4 rfl rfl ?_
  refine ex_bipush (q := 7) dX8_init_5 rfl (by decide) ⟨by decide, by decide⟩ ?_
  refine ex_anew (q := 10) (kd := 1) (n := cn h 39) dX8_init_7 rfl kd_39 (by decide) (by decide) (zTbl_i 191 (by decide +kernel) (by decide +kernel)) (List.mem_of_getElem? (i := 192) (by decide +kernel)) rfl rfl ?_
  refine ex_putF (q := 13) 2 dX8_init_10 rfl (by decide) (by decide) (zTbl_i 377 (by decide +kernel) (by decide +kernel)) (by decide) rfl (by decide) g1 rfl rfl (fun z => by cases z) ?_
  refine ex_aload_n (q := 14) dX8_init_13 rfl rfl ?_
  refine ex_bipush (q := 16) dX8_init_14 rfl (by decide) ⟨by decide, by decide⟩ ?_
  refine ex_anew (q := 19) (kd := 0) (n := cn (pt (nw h 39 11) 8 l0 2 (cn h 39)) 40) dX8_init_16 rfl kd_40 (by decide) (by decide) (zTbl_i 193 (by decide +kernel) (by decide +kernel)) (List.mem_of_getElem? (i := 194) (by decide +kernel)) rfl rfl ?_
  refine ex_putF (q := 22) 4 dX8_init_19 rfl (by decide) (by decide) (zTbl_i 379 (by decide +kernel) (by decide +kernel)) (by decide) rfl (by decide) g1 rfl rfl (fun z => by cases z) ?_
  refine ex_aload_n (q := 23) dX8_init_22 rfl rfl ?_
  refine ex_bipush (q := 25) dX8_init_23 rfl (by decide) ⟨by decide, by decide⟩ ?_
  refine ex_anew (q := 28) (kd := 9) (n := cn (pt (nw (pt (nw h 39 11) 8 l0 2 (cn h 39)) 40 91) 8 l0 4 (cn (pt (nw h 39 11) 8 l0 2 (cn h 39)) 40)) 41) dX8_init_25 rfl kd_41 (by decide) (by decide) (zTbl_i 195 (by decide +kernel) (by decide +kernel)) (List.mem_of_getElem? (i := 196) (by decide +kernel)) rfl rfl ?_
  refine ex_putF (q := 31) 6 dX8_init_28 rfl (by decide) (by decide) (zTbl_i 381 (by decide +kernel) (by decide +kernel)) (by decide) rfl (by decide) g1 rfl rfl (fun z => by cases z) ?_
  have hF := zl_e hF
  generalize pt (nw (pt (nw (pt (nw h 39 11) 8 l0 2 (cn h 39)) 40 91) 8 l0 4 (cn (pt (nw h 39 11) 8 l0 2 (cn h 39)) 40)) 41 91) 8 l0 6 (cn (pt (nw (pt (nw h 39 11) 8 l0 2 (cn h 39)) 40 91) 8 l0 4 (cn (pt (nw h 39 11) 8 l0 2 (cn h 39)) 40)) 41) = k2 at hF ⊢
  refine ex_aload_n (q := 32) dX8_init_31 rfl rfl ?_
  refine ex_sipush (q := 35) dX8_init_32 rfl (by decide) ⟨by decide, by decide⟩ ?_
  refine ex_anew (q := 38) (kd := 4) (n := cn k2 42) dX8_init_35 rfl kd_42 (by decide) (by decide) (zTbl_i 197 (by decide +kernel) (by decide +kernel)) (List.mem_of_getElem? (i := 198) (by decide +kernel)) rfl rfl ?_
  refine ex_putF (q := 41) 8 dX8_init_38 rfl (by decide) (by decide) (zTbl_i 383 (by decide +kernel) (by decide +kernel)) (by decide) rfl (by decide) g1 rfl rfl (fun z => by cases z) ?_
  refine ex_aload_n (q := 42) dX8_init_41 rfl rfl ?_
  refine ex_new (q := 45) (c := 2) (n := cn (pt (nw k2 42 160) 8 l0 8 (cn k2 42)) 2) dX8_init_42 rfl (by decide) rfl (zTbl_i 199 (by decide +kernel) (by decide +kernel)) (zTbl_i 200 (by decide +kernel) (by decide +kernel)) (zTbl_i 81 (by decide +kernel) (by decide +kernel)) rfl ?_
  refine ex_dup (q := 46) dX8_init_45 rfl (fun _ z => by cases z) ?_
  obtain ⟨g4, hF⟩ := zg hF
  obtain ⟨r3, h3, e3, hF⟩ := zb_some hF
  refine ex_callI (d' := 1) (q := 49) (as := []) (st1 := [vr 2 (cn (pt (nw k2 42 160) 8 l0 8 (cn k2 42)) 2), vr 8 l0]) (r := none) (h2 := h3) dX8_init_46 rfl (run_X2_init e3) mc_X2_init mi_X2_init ml_X8_37 (by decide) (by decide) g4 rfl rfl (Nat.le_of_ble_eq_true rfl) rfl ?_
  refine ex_putF (q := 52) 10 dX8_init_49 rfl (by decide) (by decide) (zTbl_i 385 (by decide +kernel) (by decide +kernel)) (by decide) rfl (by decide) g1 rfl rfl (fun z => by cases z) ?_
  refine ex_aload_n (q := 53) dX8_init_52 rfl rfl ?_
  refine ex_iconst (q := 54) dX8_init_53 rfl ⟨by decide, by decide⟩ ?_
  refine ex_put (q := 57) 13 dX8_init_54 rfl fl_X8_42 (by decide) g1 rfl rfl (fun z => by cases z) ?_
  refine ex_aload_n (q := 58) dX8_init_57 rfl rfl ?_
  refine ex_aload_n (q := 59) dX8_init_58 rfl rfl ?_
  refine ex_putF (q := 62) 0 dX8_init_59 rfl (by decide) (by decide) (zTbl_i 375 (by decide +kernel) (by decide +kernel)) (by decide) rfl (by decide) g1 rfl rfl (fun z => by cases z) ?_
  refine ex_aload_n (q := 63) dX8_init_62 rfl rfl ?_
  refine ex_aload_n (q := 64) dX8_init_63 rfl rfl ?_
  refine ex_putF (q := 67) 1 dX8_init_64 rfl (by decide) (by decide) (zTbl_i 376 (by decide +kernel) (by decide +kernel)) (by decide) rfl (by decide) g1 rfl rfl (fun z => by cases z) ?_
  refine ex_new (q := 70) (c := 10) (n := cn (pt (pt (pt (pt h3 8 l0 10 (cn (pt (nw k2 42 160) 8 l0 8 (cn k2 42)) 2)) 8 l0 13 (-1)) 8 l0 0 l1) 8 l0 1 l2) 10) dX8_init_67 rfl (by decide) rfl (zTbl_i 229 (by decide +kernel) (by decide +kernel)) (zTbl_i 230 (by decide +kernel) (by decide +kernel)) (zTbl_i 82 (by decide +kernel) (by decide +kernel)) rfl ?_
  refine ex_dup (q := 71) dX8_init_70 rfl (fun _ z => by cases z) ?_
  obtain ⟨g6, hF⟩ := zg hF
  obtain ⟨r5, h5, e5, hF⟩ := zb_some hF
  refine ex_callI (d' := 1) (q := 74) (as := []) (st1 := [vr 10 (cn (pt (pt (pt (pt h3 8 l0 10 (cn (pt (nw k2 42 160) 8 l0 8 (cn k2 42)) 2)) 8 l0 13 (-1)) 8 l0 0 l1) 8 l0 1 l2) 10)]) (r := none) (h2 := h5) dX8_init_71 rfl (run_X10_init e5) mc_X10_init mi_X10_init ml_X8_56 (by decide) (by decide) g6 rfl rfl (Nat.le_of_ble_eq_true rfl) rfl ?_
  refine ex_astore_n (q := 75) (lo' := [some (vr 8 l0), some (vr 3 l1), some (vr 49 l2), some (vr 10 (cn (pt (pt (pt (pt h3 8 l0 10 (cn (pt (nw k2 42 160) 8 l0 8 (cn k2 42)) 2)) 8 l0 13 (-1)) 8 l0 0 l1) 8 l0 1 l2) 10)), none]) dX8_init_74 rfl (by decide) rfl rfl ?_
  refine ex_iconst (q := 76) dX8_init_75 rfl ⟨by decide, by decide⟩ ?_
  refine ex_istore (q := 78) (lo' := [some (vr 8 l0), some (vr 3 l1), some (vr 49 l2), some (vr 10 (cn (pt (pt (pt (pt h3 8 l0 10 (cn (pt (nw k2 42 160) 8 l0 8 (cn k2 42)) 2)) 8 l0 13 (-1)) 8 l0 0 l1) 8 l0 1 l2) 10)), some (vi 0)]) dX8_init_76 rfl (by decide) rfl rfl ?_
  exact ex_forget (lo' := [some (vr 8 l0), none, none, some (vr 10 (cn (pt (pt (pt (pt h3 8 l0 10 (cn (pt (nw k2 42 160) 8 l0 8 (cn k2 42)) 2)) 8 l0 13 (-1)) 8 l0 0 l1) 8 l0 1 l2) 10)), some (vi 0)]) ⟨Or.inr rfl, Or.inl rfl, Or.inl rfl, Or.inr rfl, Or.inr rfl, trivial⟩ (x_X8_init_78 _ _ _ _ _ _ _ hF)
def F_X8_init (l0 l1 l2 : Int) (h : zH) : zO := F_X8_init_0 l0 l1 l2 h
theorem run_X8_init {l0 l1 l2 : Int} {h : zH} {r : Int} {h' : zH} (hF : F_X8_init l0 l1 l2 h = some (r, h')) : Run 2 yX8_init cX8_init 5 none [vr 8 l0, vr 3 l1, vr 49 l2] h none h' := run_of (M := M_X8_init) (by decide) rfl (fun _ => rfl) (Nat.le_of_ble_eq_true rfl) (x_X8_init_0 hF)
abbrev M_X11_init : zM := (RX11, (cX11_init, (3, (none, true))))
def F_X11_init_0 (l0 : Int) (h : zH) : zO := if 0 ≤ l0 then (if 0 ≤ cn h 3 then (zb (F_X3_init (cn h 3) (nw h 3 9)) (fun r2 h2 => if 0 ≤ cn (pt (pt (nw h2 49 12) 11 l0 0 (cn h 3)) 11 l0 1 (cn h2 49)) 8 then (zb (F_X8_init (cn (pt (pt (nw h2 49 12) 11 l0 0 (cn h 3)) 11 l0 1 (cn h2 49)) 8) (cn h 3) (cn h2 49) (nw (pt (pt (nw h2 49 12) 11 l0 0 (cn h 3)) 11 l0 1 (cn h2 49)) 8 18)) (fun r4 h4 => some (0, (pt h4 11 l0 3 (cn (pt (pt (nw h2 49 12) 11 l0 0 (cn h 3)) 11 l0 1 (cn h2 49)) 8))))) else none)) else none) else none
set_option maxHeartbeats 1000000 in
theorem x_X11_init_0 {l0 : Int} {h : zH} {r : Int} {h' : zH} (hF : F_X11_init_0 l0 h = some (r, h')) : Ex 3 M_X11_init 0 [some (vr 11 l0), none, none] [] h (fun r1 h1 => r1 = none ∧ h1 = h') := by
  unfold F_X11_init_0 at hF
  refine ex_aload_n (q := 1) dX11_init_0 rfl rfl ?_
  obtain ⟨g1, hF⟩ := zg hF
  refine ex_obj (q := 4) dX11_init_1 rfl (by decide) g1 (by decide) (zTbl_i 95 (by decide +kernel) (by decide +kernel)) (zTbl_i 96 (by decide +kernel) (by decide +kernel)) (zTbl_i 97 rfl rfl) (Nat.le_of_ble_eq_true rfl) ?_
  refine ex_new (q := 7) (c := 3) (n := cn h 3) dX11_init_4 rfl (by decide) rfl (zTbl_i 98 (by decide +kernel) (by decide +kernel)) (zTbl_i 99 (by decide +kernel) (by decide +kernel)) (zTbl_i 77 (by decide +kernel) (by decide +kernel)) rfl ?_
  refine ex_dup (q := 8) dX11_init_7 rfl (fun _ z => by cases z) ?_
  obtain ⟨g3, hF⟩ := zg hF
  obtain ⟨r2, h2, e2, hF⟩ := zb_some hF
  refine ex_callI (d' := 2) (q := 11) (as := []) (st1 := [vr 3 (cn h 3)]) (r := none) (h2 := h2) dX11_init_8 rfl (run_X3_init e2) mc_X3_init mi_X3_init ml_X11_11 (by decide) (by decide) g3 rfl rfl (Nat.le_of_ble_eq_true rfl) rfl ?_
  refine ex_astore_n (q := 12) (lo' := [some (vr 11 l0), some (vr 3 (cn h 3)), none]) dX11_init_11 rfl (by decide) rfl rfl ?_
  refine ex_bipush (q := 14) dX11_init_12 rfl (by decide) ⟨by decide, by decide⟩ ?_
  refine ex_anew (q := 17) (kd := 10) (n := cn h2 49) dX11_init_14 rfl kd_49 (by decide) (by decide) (zTbl_i 183 (by decide +kernel) (by decide +kernel)) (List.mem_of_getElem? (i := 184) (by decide +kernel)) rfl rfl ?_
  refine ex_astore_n (q := 18) (lo' := [some (vr 11 l0), some (vr 3 (cn h 3)), some (vr 49 (cn h2 49))]) dX11_init_17 rfl (by decide) rfl rfl ?_
  refine ex_aload_n (q := 19) dX11_init_18 rfl rfl ?_
  refine ex_aload_n (q := 20) dX11_init_19 rfl rfl ?_
  refine ex_putF (q := 23) 0 dX11_init_20 rfl (by decide) (by decide) (zTbl_i 431 (by decide +kernel) (by decide +kernel)) (by decide) rfl (by decide) g1 rfl rfl (fun z => by cases z) ?_
  refine ex_aload_n (q := 24) dX11_init_23 rfl rfl ?_
  refine ex_aload_n (q := 25) dX11_init_24 rfl rfl ?_
  refine ex_putF (q := 28) 1 dX11_init_25 rfl (by decide) (by decide) (zTbl_i 432 (by decide +kernel) (by decide +kernel)) (by decide) rfl (by decide) g1 rfl rfl (fun z => by cases z) ?_
  refine ex_aload_n (q := 29) dX11_init_28 rfl rfl ?_
  refine ex_new (q := 32) (c := 8) (n := cn (pt (pt (nw h2 49 12) 11 l0 0 (cn h 3)) 11 l0 1 (cn h2 49)) 8) dX11_init_29 rfl (by decide) rfl (zTbl_i 185 (by decide +kernel) (by decide +kernel)) (zTbl_i 186 (by decide +kernel) (by decide +kernel)) (zTbl_i 80 (by decide +kernel) (by decide +kernel)) rfl ?_
  refine ex_dup (q := 33) dX11_init_32 rfl (fun _ z => by cases z) ?_
  refine ex_aload_n (q := 34) dX11_init_33 rfl rfl ?_
  refine ex_aload_n (q := 35) dX11_init_34 rfl rfl ?_
  obtain ⟨g5, hF⟩ := zg hF
  obtain ⟨r4, h4, e4, hF⟩ := zb_some hF
  refine ex_callI (d' := 2) (q := 38) (as := [vr 3 (cn h 3), vr 49 (cn h2 49)]) (st1 := [vr 8 (cn (pt (pt (nw h2 49 12) 11 l0 0 (cn h 3)) 11 l0 1 (cn h2 49)) 8), vr 11 l0]) (r := none) (h2 := h4) dX11_init_35 rfl (run_X8_init e4) mc_X8_init mi_X8_init ml_X11_24 (by decide) (by decide) g5 rfl rfl (Nat.le_of_ble_eq_true rfl) rfl ?_
  refine ex_putF (q := 41) 3 dX11_init_38 rfl (by decide) (by decide) (zTbl_i 434 (by decide +kernel) (by decide +kernel)) (by decide) rfl (by decide) g1 rfl rfl (fun z => by cases z) ?_
  obtain ⟨rfl, rfl⟩ := zr hF
  exact ex_ret none rfl ⟨dX11_init_41, rfl⟩ ⟨rfl, rfl⟩
def F_X11_init (l0 : Int) (h : zH) : zO := F_X11_init_0 l0 h
theorem run_X11_init {l0 : Int} {h : zH} {r : Int} {h' : zH} (hF : F_X11_init l0 h = some (r, h')) : Run 3 yX11_init cX11_init 3 none [vr 11 l0] h none h' := run_of (M := M_X11_init) (by decide) rfl (fun _ => rfl) (Nat.le_of_ble_eq_true rfl) (x_X11_init_0 hF)
abbrev M_X11_within : zM := (RX11, (cX11_within, (2, ((some .boolean), false))))
def F_X11_within_0 (l0 l1 : Int) (h : zH) : zO := if l0 < 0 then (some (0, h)) else (if l1 ≤ l0 then (some (0, h)) else (some (1, h)))
set_option maxHeartbeats 1000000 in
theorem x_X11_within_0 {l0 l1 : Int} {h : zH} {r : Int} {h' : zH} (hF : F_X11_within_0 l0 l1 h = some (r, h')) : Ex 0 M_X11_within 0 [some (vi l0), some (vi l1)] [] h (fun r1 h1 => r1 = some (vi r) ∧ h1 = h') := by
  unfold F_X11_within_0 at hF
  refine ex_iload_n (q := 1) dX11_within_0 rfl rfl ?_
  refine ex_if_lt (q := 4) (tgt := 13) dX11_within_1 rfl (by decide) (fun c1 => ?_) (fun c1 => ?_)
  · have hF := ip c1 hF
    refine ex_iconst (q := 14) dX11_within_13 rfl ⟨by decide, by decide⟩ ?_
    obtain ⟨rfl, rfl⟩ := zr hF
    exact ex_ret (some (vi 0)) rfl ⟨dX11_within_14, Or.inr ⟨rfl, (by decide)⟩⟩ ⟨rfl, rfl⟩
  · have hF := im c1 hF
    refine ex_iload_n (q := 5) dX11_within_4 rfl rfl ?_
    refine ex_iload_n (q := 6) dX11_within_5 rfl rfl ?_
    refine ex_icmp_ge (q := 9) (tgt := 13) dX11_within_6 rfl (by decide) (fun c2 => ?_) (fun c2 => ?_)
    · have hF := ip c2 hF
      refine ex_iconst (q := 14) dX11_within_13 rfl ⟨by decide, by decide⟩ ?_
      obtain ⟨rfl, rfl⟩ := zr hF
      exact ex_ret (some (vi 0)) rfl ⟨dX11_within_14, Or.inr ⟨rfl, (by decide)⟩⟩ ⟨rfl, rfl⟩
    · have hF := im c2 hF
      refine ex_iconst (q := 10) dX11_within_9 rfl ⟨by decide, by decide⟩ ?_
      refine ex_goto (q := 14) dX11_within_10 (by decide) ?_
      obtain ⟨rfl, rfl⟩ := zr hF
      exact ex_ret (some (vi 1)) rfl ⟨dX11_within_14, Or.inr ⟨rfl, (by decide)⟩⟩ ⟨rfl, rfl⟩
def F_X11_within (l0 l1 : Int) (h : zH) : zO := F_X11_within_0 l0 l1 h
theorem run_X11_within {l0 l1 : Int} {h : zH} {r : Int} {h' : zH} (hF : F_X11_within l0 l1 h = some (r, h')) : Run 0 yX11_within cX11_within 2 (some .boolean) [vi l0, vi l1] h (some (vi r)) h' := run_of (M := M_X11_within) (by decide) rfl (fun z => by cases z) (Nat.le_of_ble_eq_true rfl) (x_X11_within_0 hF)
abbrev M_X6_init : zM := (RX6, (cX6_init, (4, (none, true))))
def F_X6_init_0 (l0 l1 l2 l3 : Int) (h : zH) : zO := if 0 ≤ l0 then (zl (pt (nw (pt (pt (pt h 6 l0 0 l1) 6 l0 1 l2) 6 l0 2 l3) 34 10) 6 l0 5 (cn (pt (pt (pt h 6 l0 0 l1) 6 l0 1 l2) 6 l0 2 l3) 34)) (fun k2 => some (0, (pt (nw k2 35 10) 6 l0 6 (cn k2 35))))) else none
set_option maxHeartbeats 1000000 in
theorem x_X6_init_0 {l0 l1 l2 l3 : Int} {h : zH} {r : Int} {h' : zH} (hF : F_X6_init_0 l0 l1 l2 l3 h = some (r, h')) : Ex 1 M_X6_init 0 [some (vr 6 l0), some (vi l1), some (vi l2), some (vi l3)] [] h (fun r1 h1 => r1 = none ∧ h1 = h') := by
  unfold F_X6_init_0 at hF
  refine ex_aload_n (q := 1) dX6_init_0 rfl rfl ?_
  obtain ⟨g1, hF⟩ := zg hF
  refine ex_obj (q := 4) dX6_init_1 rfl (by decide) g1 (by decide) (zTbl_i 461 (by decide +kernel) (by decide +kernel)) (zTbl_i 96 (by decide +kernel) (by decide +kernel)) (zTbl_i 97 rfl rfl) (Nat.le_of_ble_eq_true rfl) ?_
  refine ex_aload_n (q := 5) dX6_init_4 rfl rfl ?_
  refine ex_iload_n (q := 6) dX6_init_5 rfl rfl ?_
  refine ex_putF (q := 9) 0 dX6_init_6 rfl (by decide) (by decide) (zTbl_i 462 (by decide +kernel) (by decide +kernel)) (by decide) rfl (by decide) g1 rfl rfl (fun z => by cases z) ?_
  refine ex_aload_n (q := 10) dX6_init_9 rfl rfl ?_
  refine ex_iload_n (q := 11) dX6_init_10 rfl rfl ?_
  refine ex_putF (q := 14) 1 dX6_init_11 rfl (by decide) (by decide) (zTbl_i 466 (by decide +kernel) (by decide +kernel)) (by decide) rfl (by decide) g1 rfl rfl (fun z => by cases z) ?_
  refine ex_aload_n (q := 15) dX6_init_14 rfl rfl ?_
  refine ex_iload_n (q := 16) dX6_init_15 rfl rfl ?_
  refine ex_putF (q := 19) 2 dX6_init_16 rfl (by decide) (by decide) (zTbl_i 468 (by decide +kernel) (by decide +kernel)) (by decide) rfl (by decide) g1 rfl rfl (fun z => by cases z) ?_
  refine ex_aload_n (q := 20) dX6_init_19 rfl rfl ?_
  refine ex_bipush (q := 22) dX6_init_20 rfl (by decide) ⟨by decide, by decide⟩ ?_
  refine ex_newa (q := 24) (n := cn (pt (pt (pt h 6 l0 0 l1) 6 l0 1 l2) 6 l0 2 l3) 34) dX6_init_22 rfl kd_34 rfl (by decide) (by decide) (zTbl_i 126 (by decide +kernel) (by decide +kernel)) rfl rfl ?_
  refine ex_putF (q := 27) 5 dX6_init_24 rfl (by decide) (by decide) (zTbl_i 475 (by decide +kernel) (by decide +kernel)) (by decide) rfl (by decide) g1 rfl rfl (fun z => by cases z) ?_
  have hF := zl_e hF
  generalize pt (nw (pt (pt (pt h 6 l0 0 l1) 6 l0 1 l2) 6 l0 2 l3) 34 10) 6 l0 5 (cn (pt (pt (pt h 6 l0 0 l1) 6 l0 1 l2) 6 l0 2 l3) 34) = k2 at hF ⊢
  refine ex_aload_n (q := 28) dX6_init_27 rfl rfl ?_
  refine ex_bipush (q := 30) dX6_init_28 rfl (by decide) ⟨by decide, by decide⟩ ?_
  refine ex_newa (q := 32) (n := cn k2 35) dX6_init_30 rfl kd_35 rfl (by decide) (by decide) (zTbl_i 126 (by decide +kernel) (by decide +kernel)) rfl rfl ?_
  refine ex_putF (q := 35) 6 dX6_init_32 rfl (by decide) (by decide) (zTbl_i 477 (by decide +kernel) (by decide +kernel)) (by decide) rfl (by decide) g1 rfl rfl (fun z => by cases z) ?_
  obtain ⟨rfl, rfl⟩ := zr hF
  exact ex_ret none rfl ⟨dX6_init_35, rfl⟩ ⟨rfl, rfl⟩
def F_X6_init (l0 l1 l2 l3 : Int) (h : zH) : zO := F_X6_init_0 l0 l1 l2 l3 h
theorem run_X6_init {l0 l1 l2 l3 : Int} {h : zH} {r : Int} {h' : zH} (hF : F_X6_init l0 l1 l2 l3 h = some (r, h')) : Run 1 yX6_init cX6_init 4 none [vr 6 l0, vi l1, vi l2, vi l3] h none h' := run_of (M := M_X6_init) (by decide) rfl (fun _ => rfl) (Nat.le_of_ble_eq_true rfl) (x_X6_init_0 hF)
abbrev M_X3_takeIn : zM := (RX3, (cX3_takeIn, (3, ((some .int), false))))
def F_X3_takeIn_0 (l0 l1 l2 : Int) (h : zH) : zO := if 0 ≤ l0 then (zb (F_X11_within (gt h 3 l0 1) 60 h) (fun r2 h2 => if r2 ≠ 0 then (if 0 ≤ cn h2 6 then (zb (F_X6_init (cn h2 6) (gt (nw h2 6 8) 3 l0 1) l1 l2 (nw h2 6 8)) (fun r4 h4 => if 0 ≤ gt h2 3 l0 0 then (if 0 ≤ gt h2 3 l0 1 ∧ gt h2 3 l0 1 < 60 then (zl (pt (pt h4 27 (gt h2 3 l0 0) (gt h2 3 l0 1) (cn h2 6)) 3 l0 1 (wI ((gt (pt h4 27 (gt h2 3 l0 0) (gt h2 3 l0 1) (cn h2 6)) 3 l0 1) + 1))) (fun k8 => some (wI ((gt k8 3 l0 1) - 1), k8))) else none) else none)) else none) else (some ((-104), h2)))) else none
set_option maxHeartbeats 1000000 in
theorem x_X3_takeIn_0 {l0 l1 l2 : Int} {h : zH} {r : Int} {h' : zH} (hF : F_X3_takeIn_0 l0 l1 l2 h = some (r, h')) : Ex 2 M_X3_takeIn 0 [some (vr 3 l0), some (vi l1), some (vi l2)] [] h (fun r1 h1 => r1 = some (vi r) ∧ h1 = h') := by
  unfold F_X3_takeIn_0 at hF
  refine ex_aload_n (q := 1) dX3_takeIn_0 rfl rfl ?_
  obtain ⟨g1, hF⟩ := zg hF
  refine ex_get (q := 4) (v := vi (gt h 3 l0 1)) 1 dX3_takeIn_1 rfl fl_X3_42 g1 rfl rfl ?_
  refine ex_bipush (q := 6) dX3_takeIn_4 rfl (by decide) ⟨by decide, by decide⟩ ?_
  obtain ⟨r2, h2, e2, hF⟩ := zb_some hF
  refine ex_callS (d' := 0) (q := 9) (as := [vi (gt h 3 l0 1), vi 60]) (st1 := [vi r2]) (r := (some (vi r2))) (h2 := h2) dX3_takeIn_6 rfl (run_X11_within e2) mc_X11_within ms_X11_within ml_X3_46 (by decide) rfl rfl (Nat.le_of_ble_eq_true rfl) rfl ?_
  refine ex_if_ne (q := 12) (tgt := 15) dX3_takeIn_9 rfl (by decide) (fun c3 => ?_) (fun c3 => ?_)
  · have hF := ip c3 hF
    refine ex_aload_n (q := 16) dX3_takeIn_15 rfl rfl ?_
    refine ex_get (q := 19) (v := vr 27 (gt h2 3 l0 0)) 0 dX3_takeIn_16 rfl fl_X3_11 g1 rfl rfl ?_
    refine ex_aload_n (q := 20) dX3_takeIn_19 rfl rfl ?_
    refine ex_get (q := 23) (v := vi (gt h2 3 l0 1)) 1 dX3_takeIn_20 rfl fl_X3_42 g1 rfl rfl ?_
    refine ex_new (q := 26) (c := 6) (n := cn h2 6) dX3_takeIn_23 rfl (by decide) rfl (zTbl_i 104 (by decide +kernel) (by decide +kernel)) (zTbl_i 457 (by decide +kernel) (by decide +kernel)) (zTbl_i 88 (by decide +kernel) (by decide +kernel)) rfl ?_
    refine ex_dup (q := 27) dX3_takeIn_26 rfl (fun _ z => by cases z) ?_
    refine ex_aload_n (q := 28) dX3_takeIn_27 rfl rfl ?_
    refine ex_get (q := 31) (v := vi (gt (nw h2 6 8) 3 l0 1)) 1 dX3_takeIn_28 rfl fl_X3_42 g1 rfl rfl ?_
    refine ex_iload_n (q := 32) dX3_takeIn_31 rfl rfl ?_
    refine ex_iload_n (q := 33) dX3_takeIn_32 rfl rfl ?_
    obtain ⟨g5, hF⟩ := zg hF
    obtain ⟨r4, h4, e4, hF⟩ := zb_some hF
    refine ex_callI (d' := 1) (q := 36) (as := [vi (gt (nw h2 6 8) 3 l0 1), vi l1, vi l2]) (st1 := [vr 6 (cn h2 6), vi (gt h2 3 l0 1), vr 27 (gt h2 3 l0 0)]) (r := none) (h2 := h4) dX3_takeIn_33 rfl (run_X6_init e4) mc_X6_init mi_X6_init ml_X3_60 (by decide) (by decide) g5 rfl rfl (Nat.le_of_ble_eq_true rfl) rfl ?_
    obtain ⟨g6, hF⟩ := zg hF
    obtain ⟨g7, hF⟩ := zg hF
    refine ex_aast (q := 37) (kd := 6) dX3_takeIn_36 rfl kd_27 (by decide) g6 g7.1 g7.2 ?_
    refine ex_aload_n (q := 38) dX3_takeIn_37 rfl rfl ?_
    refine ex_dup (q := 39) dX3_takeIn_38 rfl (fun _ z => by cases z) ?_
    refine ex_get (q := 42) (v := vi (gt (pt h4 27 (gt h2 3 l0 0) (gt h2 3 l0 1) (cn h2 6)) 3 l0 1)) 1 dX3_takeIn_39 rfl fl_X3_42 g1 rfl rfl ?_
    refine ex_iconst (q := 43) dX3_takeIn_42 rfl ⟨by decide, by decide⟩ ?_
    refine ex_iadd (q := 44) dX3_takeIn_43 rfl ?_
    refine ex_put (q := 47) 1 dX3_takeIn_44 rfl fl_X3_42 (by decide) g1 rfl rfl (fun z => by cases z) ?_
    have hF := zl_e hF
    generalize pt (pt h4 27 (gt h2 3 l0 0) (gt h2 3 l0 1) (cn h2 6)) 3 l0 1 (wI ((gt (pt h4 27 (gt h2 3 l0 0) (gt h2 3 l0 1) (cn h2 6)) 3 l0 1) + 1)) = k8 at hF ⊢
    refine ex_aload_n (q := 48) dX3_takeIn_47 rfl rfl ?_
    refine ex_get (q := 51) (v := vi (gt k8 3 l0 1)) 1 dX3_takeIn_48 rfl fl_X3_42 g1 rfl rfl ?_
    refine ex_iconst (q := 52) dX3_takeIn_51 rfl ⟨by decide, by decide⟩ ?_
    refine ex_isub (q := 53) dX3_takeIn_52 rfl ?_
    obtain ⟨rfl, rfl⟩ := zr hF
    exact ex_ret (some (vi (wI ((gt k8 3 l0 1) - 1)))) rfl ⟨dX3_takeIn_53, Or.inl rfl⟩ ⟨rfl, rfl⟩
  · have hF := im c3 hF
    refine ex_bipush (q := 14) dX3_takeIn_12 rfl (by decide) ⟨by decide, by decide⟩ ?_
    obtain ⟨rfl, rfl⟩ := zr hF
    exact ex_ret (some (vi (-104))) rfl ⟨dX3_takeIn_14, Or.inl rfl⟩ ⟨rfl, rfl⟩
def F_X3_takeIn (l0 l1 l2 : Int) (h : zH) : zO := F_X3_takeIn_0 l0 l1 l2 h
theorem run_X3_takeIn {l0 l1 l2 : Int} {h : zH} {r : Int} {h' : zH} (hF : F_X3_takeIn l0 l1 l2 h = some (r, h')) : Run 2 yX3_takeIn cX3_takeIn 3 (some .int) [vr 3 l0, vi l1, vi l2] h (some (vi r)) h' := run_of (M := M_X3_takeIn) (by decide) rfl (fun z => by cases z) (Nat.le_of_ble_eq_true rfl) (x_X3_takeIn_0 hF)
abbrev M_X11_part : zM := (RX11, (cX11_part, (3, ((some .int), false))))
def F_X11_part_0 (l0 l1 l2 : Int) (h : zH) : zO := zb (F_X11_within l1 40 h) (fun r1 h1 => if r1 = 0 then (some ((-102), h1)) else (if l2 < 0 then (some ((-102), h1)) else (if l2 ≤ 100000 then (if 0 ≤ l0 then (if 0 ≤ gt h1 11 l0 0 then (zb (F_X3_takeIn (gt h1 11 l0 0) l1 l2 h1) (fun r6 h6 => some (r6, h6))) else none) else none) else (some ((-102), h1)))))
set_option maxHeartbeats 1000000 in
theorem x_X11_part_0 {l0 l1 l2 : Int} {h : zH} {r : Int} {h' : zH} (hF : F_X11_part_0 l0 l1 l2 h = some (r, h')) : Ex 3 M_X11_part 0 [some (vr 11 l0), some (vi l1), some (vi l2)] [] h (fun r1 h1 => r1 = some (vi r) ∧ h1 = h') := by
  unfold F_X11_part_0 at hF
  refine ex_iload_n (q := 1) dX11_part_0 rfl rfl ?_
  refine ex_bipush (q := 3) dX11_part_1 rfl (by decide) ⟨by decide, by decide⟩ ?_
  obtain ⟨r1, h1, e1, hF⟩ := zb_some hF
  refine ex_callS (d' := 0) (q := 6) (as := [vi l1, vi 40]) (st1 := [vi r1]) (r := (some (vi r1))) (h2 := h1) dX11_part_3 rfl (run_X11_within e1) mc_X11_within ms_X11_within ml_X11_31 (by decide) rfl rfl (Nat.le_of_ble_eq_true rfl) rfl ?_
  refine ex_if_eq (q := 9) (tgt := 19) dX11_part_6 rfl (by decide) (fun c2 => ?_) (fun c2 => ?_)
  · have hF := ip c2 hF
    refine ex_bipush (q := 21) dX11_part_19 rfl (by decide) ⟨by decide, by decide⟩ ?_
    obtain ⟨rfl, rfl⟩ := zr hF
    exact ex_ret (some (vi (-102))) rfl ⟨dX11_part_21, Or.inl rfl⟩ ⟨rfl, rfl⟩
  · have hF := im c2 hF
    refine ex_iload_n (q := 10) dX11_part_9 rfl rfl ?_
    refine ex_if_lt (q := 13) (tgt := 19) dX11_part_10 rfl (by decide) (fun c3 => ?_) (fun c3 => ?_)
    · have hF := ip c3 hF
      refine ex_bipush (q := 21) dX11_part_19 rfl (by decide) ⟨by decide, by decide⟩ ?_
      obtain ⟨rfl, rfl⟩ := zr hF
      exact ex_ret (some (vi (-102))) rfl ⟨dX11_part_21, Or.inl rfl⟩ ⟨rfl, rfl⟩
    · have hF := im c3 hF
      refine ex_iload_n (q := 14) dX11_part_13 rfl rfl ?_
      refine ex_ldc (q := 16) 100000 dX11_part_14 rfl (zTbl_i 451 (by decide +kernel) (by decide +kernel)) rfl ⟨by decide, by decide⟩ ?_
      refine ex_icmp_le (q := 19) (tgt := 22) dX11_part_16 rfl (by decide) (fun c4 => ?_) (fun c4 => ?_)
      · have hF := ip c4 hF
        refine ex_aload_n (q := 23) dX11_part_22 rfl rfl ?_
        obtain ⟨g5, hF⟩ := zg hF
        refine ex_get (q := 26) (v := vr 3 (gt h1 11 l0 0)) 0 dX11_part_23 rfl fl_X11_14 g5 rfl rfl ?_
        refine ex_iload_n (q := 27) dX11_part_26 rfl rfl ?_
        refine ex_iload_n (q := 28) dX11_part_27 rfl rfl ?_
        obtain ⟨g7, hF⟩ := zg hF
        obtain ⟨r6, h6, e6, hF⟩ := zb_some hF
        refine ex_callV (d' := 2) (q := 31) (as := [vi l1, vi l2]) (st1 := [vi r6]) (r := (some (vi r6))) (h2 := h6) dX11_part_28 rfl (run_X3_takeIn e6) mc_X3_takeIn mv_X3_takeIn ml_X11_36 (by decide) g7 rfl rfl (Nat.le_of_ble_eq_true rfl) rfl ?_
        obtain ⟨rfl, rfl⟩ := zr hF
        exact ex_ret (some (vi r6)) rfl ⟨dX11_part_31, Or.inl rfl⟩ ⟨rfl, rfl⟩
      · have hF := im c4 hF
        refine ex_bipush (q := 21) dX11_part_19 rfl (by decide) ⟨by decide, by decide⟩ ?_
        obtain ⟨rfl, rfl⟩ := zr hF
        exact ex_ret (some (vi (-102))) rfl ⟨dX11_part_21, Or.inl rfl⟩ ⟨rfl, rfl⟩
def F_X11_part (l0 l1 l2 : Int) (h : zH) : zO := F_X11_part_0 l0 l1 l2 h
theorem run_X11_part {l0 l1 l2 : Int} {h : zH} {r : Int} {h' : zH} (hF : F_X11_part l0 l1 l2 h = some (r, h')) : Run 3 yX11_part cX11_part 3 (some .int) [vr 11 l0, vi l1, vi l2] h (some (vi r)) h' := run_of (M := M_X11_part) (by decide) rfl (fun z => by cases z) (Nat.le_of_ble_eq_true rfl) (x_X11_part_0 hF)
abbrev M_X3_find : zM := (RX3, (cX3_find, (2, ((some (.object "HireScopes$Part")), false))))
def F_X3_find_0 (l0 l1 : Int) (h : zH) : zO := if 0 ≤ l0 then (zb (F_X11_within l1 (gt h 3 l0 1) h) (fun r2 h2 => if r2 = 0 then (some ((-1), h2)) else (if 0 ≤ gt h2 3 l0 0 then (if 0 ≤ l1 ∧ l1 < 60 then (some (gt h2 27 (gt h2 3 l0 0) l1, h2)) else none) else none))) else none
set_option maxHeartbeats 1000000 in
theorem x_X3_find_0 {l0 l1 : Int} {h : zH} {r : Int} {h' : zH} (hF : F_X3_find_0 l0 l1 h = some (r, h')) : Ex 1 M_X3_find 0 [some (vr 3 l0), some (vi l1)] [] h (fun r1 h1 => r1 = some (vr 6 r) ∧ h1 = h') := by
  unfold F_X3_find_0 at hF
  refine ex_iload_n (q := 1) dX3_find_0 rfl rfl ?_
  refine ex_aload_n (q := 2) dX3_find_1 rfl rfl ?_
  obtain ⟨g1, hF⟩ := zg hF
  refine ex_get (q := 5) (v := vi (gt h 3 l0 1)) 1 dX3_find_2 rfl fl_X3_42 g1 rfl rfl ?_
  obtain ⟨r2, h2, e2, hF⟩ := zb_some hF
  refine ex_callS (d' := 0) (q := 8) (as := [vi l1, vi (gt h 3 l0 1)]) (st1 := [vi r2]) (r := (some (vi r2))) (h2 := h2) dX3_find_5 rfl (run_X11_within e2) mc_X11_within ms_X11_within ml_X3_46 (by decide) rfl rfl (Nat.le_of_ble_eq_true rfl) rfl ?_
  refine ex_if_eq (q := 11) (tgt := 20) dX3_find_8 rfl (by decide) (fun c3 => ?_) (fun c3 => ?_)
  · have hF := ip c3 hF
    refine ex_null (q := 21) 6 dX3_find_20 rfl ?_
    obtain ⟨rfl, rfl⟩ := zr hF
    exact ex_ret (some (vr 6 (-1))) rfl ⟨dX3_find_21, _, rfl⟩ ⟨rfl, rfl⟩
  · have hF := im c3 hF
    refine ex_aload_n (q := 12) dX3_find_11 rfl rfl ?_
    refine ex_get (q := 15) (v := vr 27 (gt h2 3 l0 0)) 0 dX3_find_12 rfl fl_X3_11 g1 rfl rfl ?_
    refine ex_iload_n (q := 16) dX3_find_15 rfl rfl ?_
    obtain ⟨g4, hF⟩ := zg hF
    obtain ⟨g5, hF⟩ := zg hF
    refine ex_aald (q := 17) 6 dX3_find_16 rfl kd_27 (by decide) g4 g5.1 g5.2 ?_
    refine ex_goto (q := 21) dX3_find_17 (by decide) ?_
    obtain ⟨rfl, rfl⟩ := zr hF
    exact ex_ret (some (vr 6 (gt h2 27 (gt h2 3 l0 0) l1))) rfl ⟨dX3_find_21, _, rfl⟩ ⟨rfl, rfl⟩
def F_X3_find (l0 l1 : Int) (h : zH) : zO := F_X3_find_0 l0 l1 h
theorem run_X3_find {l0 l1 : Int} {h : zH} {r : Int} {h' : zH} (hF : F_X3_find l0 l1 h = some (r, h')) : Run 1 yX3_find cX3_find 2 (some (.object "HireScopes$Part")) [vr 3 l0, vi l1] h (some (vr 6 r)) h' := run_of (M := M_X3_find) (by decide) rfl (fun z => by cases z) (Nat.le_of_ble_eq_true rfl) (x_X3_find_0 hF)
abbrev M_X11_state : zM := (RX11, (cX11_state, (3, ((some .int), false))))
def F_X11_state_0 (l0 l1 : Int) (h : zH) : zO := if 0 ≤ l0 then (if 0 ≤ gt h 11 l0 0 then (zb (F_X3_find (gt h 11 l0 0) l1 h) (fun r2 h2 => if r2 ≠ -1 then (if 0 ≤ r2 then (some (gt h2 6 r2 3, h2)) else none) else (some ((-101), h2)))) else none) else none
set_option maxHeartbeats 1000000 in
theorem x_X11_state_0 {l0 l1 : Int} {h : zH} {r : Int} {h' : zH} (hF : F_X11_state_0 l0 l1 h = some (r, h')) : Ex 2 M_X11_state 0 [some (vr 11 l0), some (vi l1), none] [] h (fun r1 h1 => r1 = some (vi r) ∧ h1 = h') := by
  unfold F_X11_state_0 at hF
  refine ex_aload_n (q := 1) dX11_state_0 rfl rfl ?_
  obtain ⟨g1, hF⟩ := zg hF
  refine ex_get (q := 4) (v := vr 3 (gt h 11 l0 0)) 0 dX11_state_1 rfl fl_X11_14 g1 rfl rfl ?_
  refine ex_iload_n (q := 5) dX11_state_4 rfl rfl ?_
  obtain ⟨g3, hF⟩ := zg hF
  obtain ⟨r2, h2, e2, hF⟩ := zb_some hF
  refine ex_callV (d' := 1) (q := 8) (as := [vi l1]) (st1 := [vr 6 r2]) (r := (some (vr 6 r2))) (h2 := h2) dX11_state_5 rfl (run_X3_find e2) mc_X3_find mv_X3_find ml_X11_40 (by decide) g3 rfl rfl (Nat.le_of_ble_eq_true rfl) rfl ?_
  refine ex_astore_n (q := 9) (lo' := [some (vr 11 l0), some (vi l1), some (vr 6 r2)]) dX11_state_8 rfl (by decide) rfl rfl ?_
  refine ex_aload_n (q := 10) dX11_state_9 rfl rfl ?_
  refine ex_ifnonnull (q := 13) (tgt := 18) dX11_state_10 rfl (by decide) (fun c4 => ?_) (fun c4 => ?_)
  · have hF := ip c4 hF
    refine ex_aload_n (q := 19) dX11_state_18 rfl rfl ?_
    obtain ⟨g5, hF⟩ := zg hF
    refine ex_get (q := 22) (v := vi (gt h2 6 r2 3)) 3 dX11_state_19 rfl fl_X11_44 g5 rfl rfl ?_
    obtain ⟨rfl, rfl⟩ := zr hF
    exact ex_ret (some (vi (gt h2 6 r2 3))) rfl ⟨dX11_state_22, Or.inl rfl⟩ ⟨rfl, rfl⟩
  · have hF := im c4 hF
    refine ex_bipush (q := 15) dX11_state_13 rfl (by decide) ⟨by decide, by decide⟩ ?_
    refine ex_goto (q := 22) dX11_state_15 (by decide) ?_
    obtain ⟨rfl, rfl⟩ := zr hF
    exact ex_ret (some (vi (-101))) rfl ⟨dX11_state_22, Or.inl rfl⟩ ⟨rfl, rfl⟩
def F_X11_state (l0 l1 : Int) (h : zH) : zO := F_X11_state_0 l0 l1 h
theorem run_X11_state {l0 l1 : Int} {h : zH} {r : Int} {h' : zH} (hF : F_X11_state l0 l1 h = some (r, h')) : Run 2 yX11_state cX11_state 3 (some .int) [vr 11 l0, vi l1] h (some (vi r)) h' := run_of (M := M_X11_state) (by decide) rfl (fun z => by cases z) (Nat.le_of_ble_eq_true rfl) (x_X11_state_0 hF)
abbrev M_X3_inCleaning : zM := (RX3, (cX3_inCleaning, (2, ((some .int), false))))
def F_X3_inCleaning_0 (l0 l1 : Int) (h : zH) : zO := if 0 ≤ l0 then (zb (F_X11_within l1 (gt h 3 l0 3) h) (fun r2 h2 => if r2 = 0 then (some ((-1), h2)) else (if 0 ≤ gt h2 3 l0 2 then (if 0 ≤ l1 ∧ l1 < 60 then (some (gt h2 28 (gt h2 3 l0 2) l1, h2)) else none) else none))) else none
set_option maxHeartbeats 1000000 in
theorem x_X3_inCleaning_0 {l0 l1 : Int} {h : zH} {r : Int} {h' : zH} (hF : F_X3_inCleaning_0 l0 l1 h = some (r, h')) : Ex 1 M_X3_inCleaning 0 [some (vr 3 l0), some (vi l1)] [] h (fun r1 h1 => r1 = some (vi r) ∧ h1 = h') := by
  unfold F_X3_inCleaning_0 at hF
  refine ex_iload_n (q := 1) dX3_inCleaning_0 rfl rfl ?_
  refine ex_aload_n (q := 2) dX3_inCleaning_1 rfl rfl ?_
  obtain ⟨g1, hF⟩ := zg hF
  refine ex_get (q := 5) (v := vi (gt h 3 l0 3)) 3 dX3_inCleaning_2 rfl fl_X3_57 g1 rfl rfl ?_
  obtain ⟨r2, h2, e2, hF⟩ := zb_some hF
  refine ex_callS (d' := 0) (q := 8) (as := [vi l1, vi (gt h 3 l0 3)]) (st1 := [vi r2]) (r := (some (vi r2))) (h2 := h2) dX3_inCleaning_5 rfl (run_X11_within e2) mc_X11_within ms_X11_within ml_X3_46 (by decide) rfl rfl (Nat.le_of_ble_eq_true rfl) rfl ?_
  refine ex_if_eq (q := 11) (tgt := 20) dX3_inCleaning_8 rfl (by decide) (fun c3 => ?_) (fun c3 => ?_)
  · have hF := ip c3 hF
    refine ex_iconst (q := 21) dX3_inCleaning_20 rfl ⟨by decide, by decide⟩ ?_
    obtain ⟨rfl, rfl⟩ := zr hF
    exact ex_ret (some (vi (-1))) rfl ⟨dX3_inCleaning_21, Or.inl rfl⟩ ⟨rfl, rfl⟩
  · have hF := im c3 hF
    refine ex_aload_n (q := 12) dX3_inCleaning_11 rfl rfl ?_
    refine ex_get (q := 15) (v := vr 28 (gt h2 3 l0 2)) 2 dX3_inCleaning_12 rfl fl_X3_17 g1 rfl rfl ?_
    refine ex_iload_n (q := 16) dX3_inCleaning_15 rfl rfl ?_
    obtain ⟨g4, hF⟩ := zg hF
    obtain ⟨g5, hF⟩ := zg hF
    refine ex_iald (q := 17) dX3_inCleaning_16 rfl kd_28 g4 g5.1 g5.2 ?_
    refine ex_goto (q := 21) dX3_inCleaning_17 (by decide) ?_
    obtain ⟨rfl, rfl⟩ := zr hF
    exact ex_ret (some (vi (gt h2 28 (gt h2 3 l0 2) l1))) rfl ⟨dX3_inCleaning_21, Or.inl rfl⟩ ⟨rfl, rfl⟩
def F_X3_inCleaning (l0 l1 : Int) (h : zH) : zO := F_X3_inCleaning_0 l0 l1 h
theorem run_X3_inCleaning {l0 l1 : Int} {h : zH} {r : Int} {h' : zH} (hF : F_X3_inCleaning l0 l1 h = some (r, h')) : Run 1 yX3_inCleaning cX3_inCleaning 2 (some .int) [vr 3 l0, vi l1] h (some (vi r)) h' := run_of (M := M_X3_inCleaning) (by decide) rfl (fun z => by cases z) (Nat.le_of_ble_eq_true rfl) (x_X3_inCleaning_0 hF)
abbrev M_X3_cleanFirst : zM := (RX3, (cX3_cleanFirst, (5, ((some .int), false))))
def F_X3_cleanFirst_46b (ag46 : Int → Int → Int → zH → zO) (l0 l2 l3 : Int) (h : zH) : zO := if 0 ≤ l0 then (if gt h 3 l0 3 ≤ l3 then (some (l2, (pt h 3 l0 3 (wI ((gt h 3 l0 3) - l2))))) else (if 0 ≤ gt h 3 l0 2 then (if 0 ≤ l3 ∧ l3 < 60 then (if 0 ≤ wI (l3 - l2) ∧ wI (l3 - l2) < 60 then (ag46 l0 l2 (wI (l3 + 1)) (pt h 28 (gt h 3 l0 2) (wI (l3 - l2)) (gt h 28 (gt h 3 l0 2) l3))) else none) else none) else none)) else none
set_option maxHeartbeats 1000000 in
theorem x_X3_cleanFirst_46b {ag46 : Int → Int → Int → zH → zO} (hag46 : ∀ (l0 l2 l3 : Int) (h : zH) (r : Int) (h' : zH), ag46 l0 l2 l3 h = some (r, h') → Ex 2 M_X3_cleanFirst 46 [some (vr 3 l0), none, some (vi l2), some (vi l3), none] [] h (fun r1 h1 => r1 = some (vi r) ∧ h1 = h')) {l0 l2 l3 : Int} {h : zH} {r : Int} {h' : zH} (hF : F_X3_cleanFirst_46b ag46 l0 l2 l3 h = some (r, h')) : Ex 2 M_X3_cleanFirst 46 [some (vr 3 l0), none, some (vi l2), some (vi l3), none] [] h (fun r1 h1 => r1 = some (vi r) ∧ h1 = h') := by
  unfold F_X3_cleanFirst_46b at hF
  refine ex_iload_n (q := 47) dX3_cleanFirst_46 rfl rfl ?_
  refine ex_aload_n (q := 48) dX3_cleanFirst_47 rfl rfl ?_
  obtain ⟨g1, hF⟩ := zg hF
  refine ex_get (q := 51) (v := vi (gt h 3 l0 3)) 3 dX3_cleanFirst_48 rfl fl_X3_57 g1 rfl rfl ?_
  refine ex_icmp_ge (q := 54) (tgt := 74) dX3_cleanFirst_51 rfl (by decide) (fun c2 => ?_) (fun c2 => ?_)
  · have hF := ip c2 hF
    refine ex_aload_n (q := 75) dX3_cleanFirst_74 rfl rfl ?_
    refine ex_dup (q := 76) dX3_cleanFirst_75 rfl (fun _ z => by cases z) ?_
    refine ex_get (q := 79) (v := vi (gt h 3 l0 3)) 3 dX3_cleanFirst_76 rfl fl_X3_57 g1 rfl rfl ?_
    refine ex_iload_n (q := 80) dX3_cleanFirst_79 rfl rfl ?_
    refine ex_isub (q := 81) dX3_cleanFirst_80 rfl ?_
    refine ex_put (q := 84) 3 dX3_cleanFirst_81 rfl fl_X3_57 (by decide) g1 rfl rfl (fun z => by cases z) ?_
    refine ex_iload_n (q := 85) dX3_cleanFirst_84 rfl rfl ?_
    obtain ⟨rfl, rfl⟩ := zr hF
    exact ex_ret (some (vi l2)) rfl ⟨dX3_cleanFirst_85, Or.inl rfl⟩ ⟨rfl, rfl⟩
  · have hF := im c2 hF
    refine ex_aload_n (q := 55) dX3_cleanFirst_54 rfl rfl ?_
    refine ex_get (q := 58) (v := vr 28 (gt h 3 l0 2)) 2 dX3_cleanFirst_55 rfl fl_X3_17 g1 rfl rfl ?_
    refine ex_iload_n (q := 59) dX3_cleanFirst_58 rfl rfl ?_
    refine ex_iload_n (q := 60) dX3_cleanFirst_59 rfl rfl ?_
    refine ex_isub (q := 61) dX3_cleanFirst_60 rfl ?_
    refine ex_aload_n (q := 62) dX3_cleanFirst_61 rfl rfl ?_
    refine ex_get (q := 65) (v := vr 28 (gt h 3 l0 2)) 2 dX3_cleanFirst_62 rfl fl_X3_17 g1 rfl rfl ?_
    refine ex_iload_n (q := 66) dX3_cleanFirst_65 rfl rfl ?_
    obtain ⟨g3, hF⟩ := zg hF
    obtain ⟨g4, hF⟩ := zg hF
    refine ex_iald (q := 67) dX3_cleanFirst_66 rfl kd_28 g3 g4.1 g4.2 ?_
    obtain ⟨g5, hF⟩ := zg hF
    refine ex_iast (q := 68) dX3_cleanFirst_67 rfl kd_28 g3 g5.1 g5.2 ?_
    refine ex_iinc (q := 71) (lo' := [some (vr 3 l0), none, some (vi l2), some (vi (wI (l3 + 1))), none]) dX3_cleanFirst_68 rfl rfl (by decide) rfl rfl ?_
    refine ex_goto (q := 46) dX3_cleanFirst_71 (by decide) ?_
    exact ex_forget (lo' := [some (vr 3 l0), none, some (vi l2), some (vi (wI (l3 + 1))), none]) ⟨Or.inr rfl, Or.inl rfl, Or.inr rfl, Or.inr rfl, Or.inl rfl, trivial⟩ (hag46 _ _ _ _ _ _ hF)
def F_X3_cleanFirst_46 : Nat → Int → Int → Int → zH → zO
  | 0, _, _, _, _ => none
  | n + 1, l0, l2, l3, h => F_X3_cleanFirst_46b (F_X3_cleanFirst_46 n) l0 l2 l3 h
theorem x_X3_cleanFirst_46 : ∀ (n : Nat) (l0 l2 l3 : Int) (h : zH) (r : Int) (h' : zH), F_X3_cleanFirst_46 n l0 l2 l3 h = some (r, h') → Ex 2 M_X3_cleanFirst 46 [some (vr 3 l0), none, some (vi l2), some (vi l3), none] [] h (fun r1 h1 => r1 = some (vi r) ∧ h1 = h')
  | 0, _, _, _, _, _, _, hF => by cases hF
  | n + 1, _, _, _, _, _, _, hF => x_X3_cleanFirst_46b (x_X3_cleanFirst_46 n) hF
def F_X3_cleanFirst_11b (ag11 : Int → Int → Int → zH → zO) (l0 l2 l3 : Int) (h : zH) : zO := if l2 ≤ l3 then (F_X3_cleanFirst_46 zF l0 l2 l2 h) else (if 0 ≤ l0 then (zb (F_X3_inCleaning l0 l3 h) (fun r2 h2 => zb (F_X3_find l0 r2 h2) (fun r4 h4 => if r4 = -1 then (ag11 l0 l2 (wI (l3 + 1)) h4) else (if 0 ≤ r4 then (ag11 l0 l2 (wI (l3 + 1)) (pt h4 6 r4 3 0)) else none)))) else none)
set_option maxHeartbeats 1000000 in
theorem x_X3_cleanFirst_11b {ag11 : Int → Int → Int → zH → zO} (hag11 : ∀ (l0 l2 l3 : Int) (h : zH) (r : Int) (h' : zH), ag11 l0 l2 l3 h = some (r, h') → Ex 2 M_X3_cleanFirst 11 [some (vr 3 l0), none, some (vi l2), some (vi l3), none] [] h (fun r1 h1 => r1 = some (vi r) ∧ h1 = h')) {l0 l2 l3 : Int} {h : zH} {r : Int} {h' : zH} (hF : F_X3_cleanFirst_11b ag11 l0 l2 l3 h = some (r, h')) : Ex 2 M_X3_cleanFirst 11 [some (vr 3 l0), none, some (vi l2), some (vi l3), none] [] h (fun r1 h1 => r1 = some (vi r) ∧ h1 = h') := by
  unfold F_X3_cleanFirst_11b at hF
  refine ex_iload_n (q := 12) dX3_cleanFirst_11 rfl rfl ?_
  refine ex_iload_n (q := 13) dX3_cleanFirst_12 rfl rfl ?_
  refine ex_icmp_ge (q := 16) (tgt := 44) dX3_cleanFirst_13 rfl (by decide) (fun c1 => ?_) (fun c1 => ?_)
  · have hF := ip c1 hF
    refine ex_iload_n (q := 45) dX3_cleanFirst_44 rfl rfl ?_
    refine ex_istore_n (q := 46) (lo' := [some (vr 3 l0), none, some (vi l2), some (vi l2), none]) dX3_cleanFirst_45 rfl (by decide) rfl rfl ?_
    exact ex_forget (lo' := [some (vr 3 l0), none, some (vi l2), some (vi l2), none]) ⟨Or.inr rfl, Or.inl rfl, Or.inr rfl, Or.inr rfl, Or.inl rfl, trivial⟩ (x_X3_cleanFirst_46 _ _ _ _ _ _ _ hF)
  · have hF := im c1 hF
    refine ex_aload_n (q := 17) dX3_cleanFirst_16 rfl rfl ?_
    refine ex_aload_n (q := 18) dX3_cleanFirst_17 rfl rfl ?_
    refine ex_iload_n (q := 19) dX3_cleanFirst_18 rfl rfl ?_
    obtain ⟨g3, hF⟩ := zg hF
    obtain ⟨r2, h2, e2, hF⟩ := zb_some hF
    refine ex_callV (d' := 1) (q := 22) (as := [vi l3]) (st1 := [vi r2, vr 3 l0]) (r := (some (vi r2))) (h2 := h2) dX3_cleanFirst_19 rfl (run_X3_inCleaning e2) mc_X3_inCleaning mv_X3_inCleaning ml_X3_75 (by decide) g3 rfl rfl (Nat.le_of_ble_eq_true rfl) rfl ?_
    obtain ⟨r4, h4, e4, hF⟩ := zb_some hF
    refine ex_callV (d' := 1) (q := 25) (as := [vi r2]) (st1 := [vr 6 r4]) (r := (some (vr 6 r4))) (h2 := h4) dX3_cleanFirst_22 rfl (run_X3_find e4) mc_X3_find mv_X3_find ml_X3_53 (by decide) g3 rfl rfl (Nat.le_of_ble_eq_true rfl) rfl ?_
    refine ex_astore (q := 27) (lo' := [some (vr 3 l0), none, some (vi l2), some (vi l3), some (vr 6 r4)]) dX3_cleanFirst_25 rfl (by decide) rfl rfl ?_
    refine ex_aload (q := 29) dX3_cleanFirst_27 rfl rfl ?_
    refine ex_ifnull (q := 32) (tgt := 38) dX3_cleanFirst_29 rfl (by decide) (fun c5 => ?_) (fun c5 => ?_)
    · have hF := ip c5 hF
      refine ex_iinc (q := 41) (lo' := [some (vr 3 l0), none, some (vi l2), some (vi (wI (l3 + 1))), some (vr 6 r4)]) dX3_cleanFirst_38 rfl rfl (by decide) rfl rfl ?_
      refine ex_goto (q := 11) dX3_cleanFirst_41 (by decide) ?_
      exact ex_forget (lo' := [some (vr 3 l0), none, some (vi l2), some (vi (wI (l3 + 1))), none]) ⟨Or.inr rfl, Or.inl rfl, Or.inr rfl, Or.inr rfl, Or.inl rfl, trivial⟩ (hag11 _ _ _ _ _ _ hF)
    · have hF := im c5 hF
      refine ex_aload (q := 34) dX3_cleanFirst_32 rfl rfl ?_
      refine ex_iconst (q := 35) dX3_cleanFirst_34 rfl ⟨by decide, by decide⟩ ?_
      obtain ⟨g6, hF⟩ := zg hF
      refine ex_put (q := 38) 3 dX3_cleanFirst_35 rfl fl_X3_66 (by decide) g6 rfl rfl (fun z => by cases z) ?_
      refine ex_iinc (q := 41) (lo' := [some (vr 3 l0), none, some (vi l2), some (vi (wI (l3 + 1))), some (vr 6 r4)]) dX3_cleanFirst_38 rfl rfl (by decide) rfl rfl ?_
      refine ex_goto (q := 11) dX3_cleanFirst_41 (by decide) ?_
      exact ex_forget (lo' := [some (vr 3 l0), none, some (vi l2), some (vi (wI (l3 + 1))), none]) ⟨Or.inr rfl, Or.inl rfl, Or.inr rfl, Or.inr rfl, Or.inl rfl, trivial⟩ (hag11 _ _ _ _ _ _ hF)
def F_X3_cleanFirst_11 : Nat → Int → Int → Int → zH → zO
  | 0, _, _, _, _ => none
  | n + 1, l0, l2, l3, h => F_X3_cleanFirst_11b (F_X3_cleanFirst_11 n) l0 l2 l3 h
theorem x_X3_cleanFirst_11 : ∀ (n : Nat) (l0 l2 l3 : Int) (h : zH) (r : Int) (h' : zH), F_X3_cleanFirst_11 n l0 l2 l3 h = some (r, h') → Ex 2 M_X3_cleanFirst 11 [some (vr 3 l0), none, some (vi l2), some (vi l3), none] [] h (fun r1 h1 => r1 = some (vi r) ∧ h1 = h')
  | 0, _, _, _, _, _, _, hF => by cases hF
  | n + 1, _, _, _, _, _, _, hF => x_X3_cleanFirst_11b (x_X3_cleanFirst_11 n) hF
def F_X3_cleanFirst_0 (l0 l1 : Int) (h : zH) : zO := if 0 ≤ l0 then (F_X3_cleanFirst_11 zF l0 (if (gt h 3 l0 3) < l1 then (gt h 3 l0 3) else l1) 0 h) else none
set_option maxHeartbeats 1000000 in
theorem x_X3_cleanFirst_0 {l0 l1 : Int} {h : zH} {r : Int} {h' : zH} (hF : F_X3_cleanFirst_0 l0 l1 h = some (r, h')) : Ex 2 M_X3_cleanFirst 0 [some (vr 3 l0), some (vi l1), none, none, none] [] h (fun r1 h1 => r1 = some (vi r) ∧ h1 = h') := by
  unfold F_X3_cleanFirst_0 at hF
  refine ex_iload_n (q := 1) dX3_cleanFirst_0 rfl rfl ?_
  refine ex_aload_n (q := 2) dX3_cleanFirst_1 rfl rfl ?_
  obtain ⟨g1, hF⟩ := zg hF
  refine ex_get (q := 5) (v := vi (gt h 3 l0 3)) 3 dX3_cleanFirst_2 rfl fl_X3_57 g1 rfl rfl ?_
  refine ex_mmin (q := 8) dX3_cleanFirst_5 rfl (by decide) (zTbl_i 515 (by decide +kernel) (by decide +kernel)) (zTbl_i 516 (by decide +kernel) (by decide +kernel)) (zTbl_i 89 (by decide +kernel) (by decide +kernel)) wc_min (Nat.le_of_ble_eq_true rfl) ?_
  refine ex_istore_n (q := 9) (lo' := [some (vr 3 l0), some (vi l1), some (vi (if (gt h 3 l0 3) < l1 then (gt h 3 l0 3) else l1)), none, none]) dX3_cleanFirst_8 rfl (by decide) rfl rfl ?_
  refine ex_iconst (q := 10) dX3_cleanFirst_9 rfl ⟨by decide, by decide⟩ ?_
  refine ex_istore_n (q := 11) (lo' := [some (vr 3 l0), some (vi l1), some (vi (if (gt h 3 l0 3) < l1 then (gt h 3 l0 3) else l1)), some (vi 0), none]) dX3_cleanFirst_10 rfl (by decide) rfl rfl ?_
  exact ex_forget (lo' := [some (vr 3 l0), none, some (vi (if (gt h 3 l0 3) < l1 then (gt h 3 l0 3) else l1)), some (vi 0), none]) ⟨Or.inr rfl, Or.inl rfl, Or.inr rfl, Or.inr rfl, Or.inl rfl, trivial⟩ (x_X3_cleanFirst_11 _ _ _ _ _ _ _ hF)
def F_X3_cleanFirst (l0 l1 : Int) (h : zH) : zO := F_X3_cleanFirst_0 l0 l1 h
theorem run_X3_cleanFirst {l0 l1 : Int} {h : zH} {r : Int} {h' : zH} (hF : F_X3_cleanFirst l0 l1 h = some (r, h')) : Run 2 yX3_cleanFirst cX3_cleanFirst 5 (some .int) [vr 3 l0, vi l1] h (some (vi r)) h' := run_of (M := M_X3_cleanFirst) (by decide) rfl (fun z => by cases z) (Nat.le_of_ble_eq_true rfl) (x_X3_cleanFirst_0 hF)
abbrev M_X11_clean : zM := (RX11, (cX11_clean, (2, ((some .int), false))))
def F_X11_clean_0 (l0 l1 : Int) (h : zH) : zO := if l1 < 0 then (some ((-102), h)) else (if l1 ≤ 60 then (if 0 ≤ l0 then (if 0 ≤ gt h 11 l0 0 then (zb (F_X3_cleanFirst (gt h 11 l0 0) l1 h) (fun r4 h4 => some (r4, h4))) else none) else none) else (some ((-102), h)))
set_option maxHeartbeats 1000000 in
theorem x_X11_clean_0 {l0 l1 : Int} {h : zH} {r : Int} {h' : zH} (hF : F_X11_clean_0 l0 l1 h = some (r, h')) : Ex 3 M_X11_clean 0 [some (vr 11 l0), some (vi l1)] [] h (fun r1 h1 => r1 = some (vi r) ∧ h1 = h') := by
  unfold F_X11_clean_0 at hF
  refine ex_iload_n (q := 1) dX11_clean_0 rfl rfl ?_
  refine ex_if_lt (q := 4) (tgt := 10) dX11_clean_1 rfl (by decide) (fun c1 => ?_) (fun c1 => ?_)
  · have hF := ip c1 hF
    refine ex_bipush (q := 12) dX11_clean_10 rfl (by decide) ⟨by decide, by decide⟩ ?_
    refine ex_goto (q := 23) dX11_clean_12 (by decide) ?_
    obtain ⟨rfl, rfl⟩ := zr hF
    exact ex_ret (some (vi (-102))) rfl ⟨dX11_clean_23, Or.inl rfl⟩ ⟨rfl, rfl⟩
  · have hF := im c1 hF
    refine ex_iload_n (q := 5) dX11_clean_4 rfl rfl ?_
    refine ex_bipush (q := 7) dX11_clean_5 rfl (by decide) ⟨by decide, by decide⟩ ?_
    refine ex_icmp_le (q := 10) (tgt := 15) dX11_clean_7 rfl (by decide) (fun c2 => ?_) (fun c2 => ?_)
    · have hF := ip c2 hF
      refine ex_aload_n (q := 16) dX11_clean_15 rfl rfl ?_
      obtain ⟨g3, hF⟩ := zg hF
      refine ex_get (q := 19) (v := vr 3 (gt h 11 l0 0)) 0 dX11_clean_16 rfl fl_X11_14 g3 rfl rfl ?_
      refine ex_iload_n (q := 20) dX11_clean_19 rfl rfl ?_
      obtain ⟨g5, hF⟩ := zg hF
      obtain ⟨r4, h4, e4, hF⟩ := zb_some hF
      refine ex_callV (d' := 2) (q := 23) (as := [vi l1]) (st1 := [vi r4]) (r := (some (vi r4))) (h2 := h4) dX11_clean_20 rfl (run_X3_cleanFirst e4) mc_X3_cleanFirst mv_X3_cleanFirst ml_X11_50 (by decide) g5 rfl rfl (Nat.le_of_ble_eq_true rfl) rfl ?_
      obtain ⟨rfl, rfl⟩ := zr hF
      exact ex_ret (some (vi r4)) rfl ⟨dX11_clean_23, Or.inl rfl⟩ ⟨rfl, rfl⟩
    · have hF := im c2 hF
      refine ex_bipush (q := 12) dX11_clean_10 rfl (by decide) ⟨by decide, by decide⟩ ?_
      refine ex_goto (q := 23) dX11_clean_12 (by decide) ?_
      obtain ⟨rfl, rfl⟩ := zr hF
      exact ex_ret (some (vi (-102))) rfl ⟨dX11_clean_23, Or.inl rfl⟩ ⟨rfl, rfl⟩
def F_X11_clean (l0 l1 : Int) (h : zH) : zO := F_X11_clean_0 l0 l1 h
theorem run_X11_clean {l0 l1 : Int} {h : zH} {r : Int} {h' : zH} (hF : F_X11_clean l0 l1 h = some (r, h')) : Run 3 yX11_clean cX11_clean 2 (some .int) [vr 11 l0, vi l1] h (some (vi r)) h' := run_of (M := M_X11_clean) (by decide) rfl (fun z => by cases z) (Nat.le_of_ble_eq_true rfl) (x_X11_clean_0 hF)
abbrev M_X11_cleaning : zM := (RX11, (cX11_cleaning, (2, ((some .int), false))))
def F_X11_cleaning_0 (l0 l1 : Int) (h : zH) : zO := if 0 ≤ l0 then (if 0 ≤ gt h 11 l0 0 then (zb (F_X3_inCleaning (gt h 11 l0 0) l1 h) (fun r2 h2 => some (r2, h2))) else none) else none
set_option maxHeartbeats 1000000 in
theorem x_X11_cleaning_0 {l0 l1 : Int} {h : zH} {r : Int} {h' : zH} (hF : F_X11_cleaning_0 l0 l1 h = some (r, h')) : Ex 2 M_X11_cleaning 0 [some (vr 11 l0), some (vi l1)] [] h (fun r1 h1 => r1 = some (vi r) ∧ h1 = h') := by
  unfold F_X11_cleaning_0 at hF
  refine ex_aload_n (q := 1) dX11_cleaning_0 rfl rfl ?_
  obtain ⟨g1, hF⟩ := zg hF
  refine ex_get (q := 4) (v := vr 3 (gt h 11 l0 0)) 0 dX11_cleaning_1 rfl fl_X11_14 g1 rfl rfl ?_
  refine ex_iload_n (q := 5) dX11_cleaning_4 rfl rfl ?_
  obtain ⟨g3, hF⟩ := zg hF
  obtain ⟨r2, h2, e2, hF⟩ := zb_some hF
  refine ex_callV (d' := 1) (q := 8) (as := [vi l1]) (st1 := [vi r2]) (r := (some (vi r2))) (h2 := h2) dX11_cleaning_5 rfl (run_X3_inCleaning e2) mc_X3_inCleaning mv_X3_inCleaning ml_X11_54 (by decide) g3 rfl rfl (Nat.le_of_ble_eq_true rfl) rfl ?_
  obtain ⟨rfl, rfl⟩ := zr hF
  exact ex_ret (some (vi r2)) rfl ⟨dX11_cleaning_8, Or.inl rfl⟩ ⟨rfl, rfl⟩
def F_X11_cleaning (l0 l1 : Int) (h : zH) : zO := F_X11_cleaning_0 l0 l1 h
theorem run_X11_cleaning {l0 l1 : Int} {h : zH} {r : Int} {h' : zH} (hF : F_X11_cleaning l0 l1 h = some (r, h')) : Run 2 yX11_cleaning cX11_cleaning 2 (some .int) [vr 11 l0, vi l1] h (some (vi r)) h' := run_of (M := M_X11_cleaning) (by decide) rfl (fun z => by cases z) (Nat.le_of_ble_eq_true rfl) (x_X11_cleaning_0 hF)
abbrev M_X7_add : zM := (RX7, (cX7_add, (4, ((some .int), false))))
def F_X7_add_0 (l0 l1 l2 l3 : Int) (h : zH) : zO := if 0 ≤ l0 then (zb (F_X11_within (gt h 7 l0 3) 30 h) (fun r2 h2 => if r2 ≠ 0 then (if 0 ≤ gt h2 7 l0 0 then (if 0 ≤ gt h2 7 l0 3 ∧ gt h2 7 l0 3 < 30 then (if 0 ≤ gt (pt h2 36 (gt h2 7 l0 0) (gt h2 7 l0 3) l1) 7 l0 1 then (if 0 ≤ gt (pt h2 36 (gt h2 7 l0 0) (gt h2 7 l0 3) l1) 7 l0 3 ∧ gt (pt h2 36 (gt h2 7 l0 0) (gt h2 7 l0 3) l1) 7 l0 3 < 30 then (zl (pt (pt h2 36 (gt h2 7 l0 0) (gt h2 7 l0 3) l1) 37 (gt (pt h2 36 (gt h2 7 l0 0) (gt h2 7 l0 3) l1) 7 l0 1) (gt (pt h2 36 (gt h2 7 l0 0) (gt h2 7 l0 3) l1) 7 l0 3) l2) (fun k8 => if 0 ≤ gt k8 7 l0 2 then (if 0 ≤ gt k8 7 l0 3 ∧ gt k8 7 l0 3 < 30 then (some (gt (pt (pt k8 38 (gt k8 7 l0 2) (gt k8 7 l0 3) l3) 7 l0 3 (wI ((gt (pt k8 38 (gt k8 7 l0 2) (gt k8 7 l0 3) l3) 7 l0 3) + 1))) 7 l0 3, (pt (pt k8 38 (gt k8 7 l0 2) (gt k8 7 l0 3) l3) 7 l0 3 (wI ((gt (pt k8 38 (gt k8 7 l0 2) (gt k8 7 l0 3) l3) 7 l0 3) + 1))))) else none) else none)) else none) else none) else none) else none) else (some ((-104), h2)))) else none
set_option maxHeartbeats 1000000 in
theorem x_X7_add_0 {l0 l1 l2 l3 : Int} {h : zH} {r : Int} {h' : zH} (hF : F_X7_add_0 l0 l1 l2 l3 h = some (r, h')) : Ex 1 M_X7_add 0 [some (vr 7 l0), some (vi l1), some (vi l2), some (vi l3)] [] h (fun r1 h1 => r1 = some (vi r) ∧ h1 = h') := by
  unfold F_X7_add_0 at hF
  refine ex_aload_n (q := 1) dX7_add_0 rfl rfl ?_
  obtain ⟨g1, hF⟩ := zg hF
  refine ex_get (q := 4) (v := vi (gt h 7 l0 3)) 3 dX7_add_1 rfl fl_X7_21 g1 rfl rfl ?_
  refine ex_bipush (q := 6) dX7_add_4 rfl (by decide) ⟨by decide, by decide⟩ ?_
  obtain ⟨r2, h2, e2, hF⟩ := zb_some hF
  refine ex_callS (d' := 0) (q := 9) (as := [vi (gt h 7 l0 3), vi 30]) (st1 := [vi r2]) (r := (some (vi r2))) (h2 := h2) dX7_add_6 rfl (run_X11_within e2) mc_X11_within ms_X11_within ml_X7_25 (by decide) rfl rfl (Nat.le_of_ble_eq_true rfl) rfl ?_
  refine ex_if_ne (q := 12) (tgt := 15) dX7_add_9 rfl (by decide) (fun c3 => ?_) (fun c3 => ?_)
  · have hF := ip c3 hF
    refine ex_aload_n (q := 16) dX7_add_15 rfl rfl ?_
    refine ex_get (q := 19) (v := vr 36 (gt h2 7 l0 0)) 0 dX7_add_16 rfl fl_X7_9 g1 rfl rfl ?_
    refine ex_aload_n (q := 20) dX7_add_19 rfl rfl ?_
    refine ex_get (q := 23) (v := vi (gt h2 7 l0 3)) 3 dX7_add_20 rfl fl_X7_21 g1 rfl rfl ?_
    refine ex_iload_n (q := 24) dX7_add_23 rfl rfl ?_
    obtain ⟨g4, hF⟩ := zg hF
    obtain ⟨g5, hF⟩ := zg hF
    refine ex_iast (q := 25) dX7_add_24 rfl kd_36 g4 g5.1 g5.2 ?_
    refine ex_aload_n (q := 26) dX7_add_25 rfl rfl ?_
    refine ex_get (q := 29) (v := vr 37 (gt (pt h2 36 (gt h2 7 l0 0) (gt h2 7 l0 3) l1) 7 l0 1)) 1 dX7_add_26 rfl fl_X7_15 g1 rfl rfl ?_
    refine ex_aload_n (q := 30) dX7_add_29 rfl rfl ?_
    refine ex_get (q := 33) (v := vi (gt (pt h2 36 (gt h2 7 l0 0) (gt h2 7 l0 3) l1) 7 l0 3)) 3 dX7_add_30 rfl fl_X7_21 g1 rfl rfl ?_
    refine ex_iload_n (q := 34) dX7_add_33 rfl rfl ?_
    obtain ⟨g6, hF⟩ := zg hF
    obtain ⟨g7, hF⟩ := zg hF
    refine ex_iast (q := 35) dX7_add_34 rfl kd_37 g6 g7.1 g7.2 ?_
    have hF := zl_e hF
    generalize pt (pt h2 36 (gt h2 7 l0 0) (gt h2 7 l0 3) l1) 37 (gt (pt h2 36 (gt h2 7 l0 0) (gt h2 7 l0 3) l1) 7 l0 1) (gt (pt h2 36 (gt h2 7 l0 0) (gt h2 7 l0 3) l1) 7 l0 3) l2 = k8 at hF ⊢
    refine ex_aload_n (q := 36) dX7_add_35 rfl rfl ?_
    refine ex_get (q := 39) (v := vr 38 (gt k8 7 l0 2)) 2 dX7_add_36 rfl fl_X7_18 g1 rfl rfl ?_
    refine ex_aload_n (q := 40) dX7_add_39 rfl rfl ?_
    refine ex_get (q := 43) (v := vi (gt k8 7 l0 3)) 3 dX7_add_40 rfl fl_X7_21 g1 rfl rfl ?_
    refine ex_iload_n (q := 44) dX7_add_43 rfl rfl ?_
    obtain ⟨g9, hF⟩ := zg hF
    obtain ⟨g10, hF⟩ := zg hF
    refine ex_iast (q := 45) dX7_add_44 rfl kd_38 g9 g10.1 g10.2 ?_
    refine ex_aload_n (q := 46) dX7_add_45 rfl rfl ?_
    refine ex_dup (q := 47) dX7_add_46 rfl (fun _ z => by cases z) ?_
    refine ex_get (q := 50) (v := vi (gt (pt k8 38 (gt k8 7 l0 2) (gt k8 7 l0 3) l3) 7 l0 3)) 3 dX7_add_47 rfl fl_X7_21 g1 rfl rfl ?_
    refine ex_iconst (q := 51) dX7_add_50 rfl ⟨by decide, by decide⟩ ?_
    refine ex_iadd (q := 52) dX7_add_51 rfl ?_
    refine ex_put (q := 55) 3 dX7_add_52 rfl fl_X7_21 (by decide) g1 rfl rfl (fun z => by cases z) ?_
    refine ex_aload_n (q := 56) dX7_add_55 rfl rfl ?_
    refine ex_get (q := 59) (v := vi (gt (pt (pt k8 38 (gt k8 7 l0 2) (gt k8 7 l0 3) l3) 7 l0 3 (wI ((gt (pt k8 38 (gt k8 7 l0 2) (gt k8 7 l0 3) l3) 7 l0 3) + 1))) 7 l0 3)) 3 dX7_add_56 rfl fl_X7_21 g1 rfl rfl ?_
    obtain ⟨rfl, rfl⟩ := zr hF
    exact ex_ret (some (vi (gt (pt (pt k8 38 (gt k8 7 l0 2) (gt k8 7 l0 3) l3) 7 l0 3 (wI ((gt (pt k8 38 (gt k8 7 l0 2) (gt k8 7 l0 3) l3) 7 l0 3) + 1))) 7 l0 3))) rfl ⟨dX7_add_59, Or.inl rfl⟩ ⟨rfl, rfl⟩
  · have hF := im c3 hF
    refine ex_bipush (q := 14) dX7_add_12 rfl (by decide) ⟨by decide, by decide⟩ ?_
    obtain ⟨rfl, rfl⟩ := zr hF
    exact ex_ret (some (vi (-104))) rfl ⟨dX7_add_14, Or.inl rfl⟩ ⟨rfl, rfl⟩
def F_X7_add (l0 l1 l2 l3 : Int) (h : zH) : zO := F_X7_add_0 l0 l1 l2 l3 h
theorem run_X7_add {l0 l1 l2 l3 : Int} {h : zH} {r : Int} {h' : zH} (hF : F_X7_add l0 l1 l2 l3 h = some (r, h')) : Run 1 yX7_add cX7_add 4 (some .int) [vr 7 l0, vi l1, vi l2, vi l3] h (some (vi r)) h' := run_of (M := M_X7_add) (by decide) rfl (fun z => by cases z) (Nat.le_of_ble_eq_true rfl) (x_X7_add_0 hF)
abbrev M_X11_plan : zM := (RX11, (cX11_plan, (4, ((some .int), false))))
def F_X11_plan_0 (l0 l1 l2 l3 : Int) (h : zH) : zO := if 0 ≤ l0 then (if 0 ≤ gt h 11 l0 0 then (zb (F_X3_find (gt h 11 l0 0) l1 h) (fun r2 h2 => if r2 ≠ -1 then (if l2 < 1 then (some ((-102), h2)) else (if 20 < l2 then (some ((-102), h2)) else (zb (F_X11_within l3 2 h2) (fun r7 h7 => if r7 ≠ 0 then (if 0 ≤ gt h7 11 l0 0 then (if 0 ≤ gt h7 3 (gt h7 11 l0 0) 7 then (zb (F_X7_add (gt h7 3 (gt h7 11 l0 0) 7) l1 l2 l3 h7) (fun r10 h10 => some (r10, h10))) else none) else none) else (some ((-102), h7)))))) else (some ((-101), h2)))) else none) else none
set_option maxHeartbeats 1000000 in
theorem x_X11_plan_0 {l0 l1 l2 l3 : Int} {h : zH} {r : Int} {h' : zH} (hF : F_X11_plan_0 l0 l1 l2 l3 h = some (r, h')) : Ex 2 M_X11_plan 0 [some (vr 11 l0), some (vi l1), some (vi l2), some (vi l3)] [] h (fun r1 h1 => r1 = some (vi r) ∧ h1 = h') := by
  unfold F_X11_plan_0 at hF
  refine ex_aload_n (q := 1) dX11_plan_0 rfl rfl ?_
  obtain ⟨g1, hF⟩ := zg hF
  refine ex_get (q := 4) (v := vr 3 (gt h 11 l0 0)) 0 dX11_plan_1 rfl fl_X11_14 g1 rfl rfl ?_
  refine ex_iload_n (q := 5) dX11_plan_4 rfl rfl ?_
  obtain ⟨g3, hF⟩ := zg hF
  obtain ⟨r2, h2, e2, hF⟩ := zb_some hF
  refine ex_callV (d' := 1) (q := 8) (as := [vi l1]) (st1 := [vr 6 r2]) (r := (some (vr 6 r2))) (h2 := h2) dX11_plan_5 rfl (run_X3_find e2) mc_X3_find mv_X3_find ml_X11_40 (by decide) g3 rfl rfl (Nat.le_of_ble_eq_true rfl) rfl ?_
  refine ex_ifnonnull (q := 11) (tgt := 14) dX11_plan_8 rfl (by decide) (fun c4 => ?_) (fun c4 => ?_)
  · have hF := ip c4 hF
    refine ex_iload_n (q := 15) dX11_plan_14 rfl rfl ?_
    refine ex_iconst (q := 16) dX11_plan_15 rfl ⟨by decide, by decide⟩ ?_
    refine ex_icmp_lt (q := 19) (tgt := 33) dX11_plan_16 rfl (by decide) (fun c5 => ?_) (fun c5 => ?_)
    · have hF := ip c5 hF
      refine ex_bipush (q := 35) dX11_plan_33 rfl (by decide) ⟨by decide, by decide⟩ ?_
      obtain ⟨rfl, rfl⟩ := zr hF
      exact ex_ret (some (vi (-102))) rfl ⟨dX11_plan_35, Or.inl rfl⟩ ⟨rfl, rfl⟩
    · have hF := im c5 hF
      refine ex_iload_n (q := 20) dX11_plan_19 rfl rfl ?_
      refine ex_bipush (q := 22) dX11_plan_20 rfl (by decide) ⟨by decide, by decide⟩ ?_
      refine ex_icmp_gt (q := 25) (tgt := 33) dX11_plan_22 rfl (by decide) (fun c6 => ?_) (fun c6 => ?_)
      · have hF := ip c6 hF
        refine ex_bipush (q := 35) dX11_plan_33 rfl (by decide) ⟨by decide, by decide⟩ ?_
        obtain ⟨rfl, rfl⟩ := zr hF
        exact ex_ret (some (vi (-102))) rfl ⟨dX11_plan_35, Or.inl rfl⟩ ⟨rfl, rfl⟩
      · have hF := im c6 hF
        refine ex_iload_n (q := 26) dX11_plan_25 rfl rfl ?_
        refine ex_iconst (q := 27) dX11_plan_26 rfl ⟨by decide, by decide⟩ ?_
        obtain ⟨r7, h7, e7, hF⟩ := zb_some hF
        refine ex_callS (d' := 0) (q := 30) (as := [vi l3, vi 2]) (st1 := [vi r7]) (r := (some (vi r7))) (h2 := h7) dX11_plan_27 rfl (run_X11_within e7) mc_X11_within ms_X11_within ml_X11_31 (by decide) rfl rfl (Nat.le_of_ble_eq_true rfl) rfl ?_
        refine ex_if_ne (q := 33) (tgt := 36) dX11_plan_30 rfl (by decide) (fun c8 => ?_) (fun c8 => ?_)
        · have hF := ip c8 hF
          refine ex_aload_n (q := 37) dX11_plan_36 rfl rfl ?_
          refine ex_get (q := 40) (v := vr 3 (gt h7 11 l0 0)) 0 dX11_plan_37 rfl fl_X11_14 g1 rfl rfl ?_
          obtain ⟨g9, hF⟩ := zg hF
          refine ex_get (q := 43) (v := vr 7 (gt h7 3 (gt h7 11 l0 0) 7)) 7 dX11_plan_40 rfl fl_X11_57 g9 rfl rfl ?_
          refine ex_iload_n (q := 44) dX11_plan_43 rfl rfl ?_
          refine ex_iload_n (q := 45) dX11_plan_44 rfl rfl ?_
          refine ex_iload_n (q := 46) dX11_plan_45 rfl rfl ?_
          obtain ⟨g11, hF⟩ := zg hF
          obtain ⟨r10, h10, e10, hF⟩ := zb_some hF
          refine ex_callV (d' := 1) (q := 49) (as := [vi l1, vi l2, vi l3]) (st1 := [vi r10]) (r := (some (vi r10))) (h2 := h10) dX11_plan_46 rfl (run_X7_add e10) mc_X7_add mv_X7_add ml_X11_61 (by decide) g11 rfl rfl (Nat.le_of_ble_eq_true rfl) rfl ?_
          obtain ⟨rfl, rfl⟩ := zr hF
          exact ex_ret (some (vi r10)) rfl ⟨dX11_plan_49, Or.inl rfl⟩ ⟨rfl, rfl⟩
        · have hF := im c8 hF
          refine ex_bipush (q := 35) dX11_plan_33 rfl (by decide) ⟨by decide, by decide⟩ ?_
          obtain ⟨rfl, rfl⟩ := zr hF
          exact ex_ret (some (vi (-102))) rfl ⟨dX11_plan_35, Or.inl rfl⟩ ⟨rfl, rfl⟩
  · have hF := im c4 hF
    refine ex_bipush (q := 13) dX11_plan_11 rfl (by decide) ⟨by decide, by decide⟩ ?_
    obtain ⟨rfl, rfl⟩ := zr hF
    exact ex_ret (some (vi (-101))) rfl ⟨dX11_plan_13, Or.inl rfl⟩ ⟨rfl, rfl⟩
def F_X11_plan (l0 l1 l2 l3 : Int) (h : zH) : zO := F_X11_plan_0 l0 l1 l2 l3 h
theorem run_X11_plan {l0 l1 l2 l3 : Int} {h : zH} {r : Int} {h' : zH} (hF : F_X11_plan l0 l1 l2 l3 h = some (r, h')) : Run 2 yX11_plan cX11_plan 4 (some .int) [vr 11 l0, vi l1, vi l2, vi l3] h (some (vi r)) h' := run_of (M := M_X11_plan) (by decide) rfl (fun z => by cases z) (Nat.le_of_ble_eq_true rfl) (x_X11_plan_0 hF)
abbrev M_X11_plans : zM := (RX11, (cX11_plans, (3, ((some .int), false))))
def F_X11_plans_0 (l0 l1 : Int) (h : zH) : zO := if 0 ≤ l0 then (if 0 ≤ gt h 11 l0 0 then (if 0 ≤ gt h 3 (gt h 11 l0 0) 7 then (if l1 = 0 then (some (gt h 7 (gt h 3 (gt h 11 l0 0) 7) 3, h)) else (some (gt h 7 (gt h 3 (gt h 11 l0 0) 7) 3, (pt h 7 (gt h 3 (gt h 11 l0 0) 7) 3 0)))) else none) else none) else none
set_option maxHeartbeats 1000000 in
theorem x_X11_plans_0 {l0 l1 : Int} {h : zH} {r : Int} {h' : zH} (hF : F_X11_plans_0 l0 l1 h = some (r, h')) : Ex 0 M_X11_plans 0 [some (vr 11 l0), some (vi l1), none] [] h (fun r1 h1 => r1 = some (vi r) ∧ h1 = h') := by
  unfold F_X11_plans_0 at hF
  refine ex_aload_n (q := 1) dX11_plans_0 rfl rfl ?_
  obtain ⟨g1, hF⟩ := zg hF
  refine ex_get (q := 4) (v := vr 3 (gt h 11 l0 0)) 0 dX11_plans_1 rfl fl_X11_14 g1 rfl rfl ?_
  obtain ⟨g2, hF⟩ := zg hF
  refine ex_get (q := 7) (v := vr 7 (gt h 3 (gt h 11 l0 0) 7)) 7 dX11_plans_4 rfl fl_X11_57 g2 rfl rfl ?_
  obtain ⟨g3, hF⟩ := zg hF
  refine ex_get (q := 10) (v := vi (gt h 7 (gt h 3 (gt h 11 l0 0) 7) 3)) 3 dX11_plans_7 rfl fl_X11_67 g3 rfl rfl ?_
  refine ex_istore_n (q := 11) (lo' := [some (vr 11 l0), some (vi l1), some (vi (gt h 7 (gt h 3 (gt h 11 l0 0) 7) 3))]) dX11_plans_10 rfl (by decide) rfl rfl ?_
  refine ex_iload_n (q := 12) dX11_plans_11 rfl rfl ?_
  refine ex_if_eq (q := 15) (tgt := 26) dX11_plans_12 rfl (by decide) (fun c4 => ?_) (fun c4 => ?_)
  · have hF := ip c4 hF
    refine ex_iload_n (q := 27) dX11_plans_26 rfl rfl ?_
    obtain ⟨rfl, rfl⟩ := zr hF
    exact ex_ret (some (vi (gt h 7 (gt h 3 (gt h 11 l0 0) 7) 3))) rfl ⟨dX11_plans_27, Or.inl rfl⟩ ⟨rfl, rfl⟩
  · have hF := im c4 hF
    refine ex_aload_n (q := 16) dX11_plans_15 rfl rfl ?_
    refine ex_get (q := 19) (v := vr 3 (gt h 11 l0 0)) 0 dX11_plans_16 rfl fl_X11_14 g1 rfl rfl ?_
    refine ex_get (q := 22) (v := vr 7 (gt h 3 (gt h 11 l0 0) 7)) 7 dX11_plans_19 rfl fl_X11_57 g2 rfl rfl ?_
    refine ex_iconst (q := 23) dX11_plans_22 rfl ⟨by decide, by decide⟩ ?_
    refine ex_put (q := 26) 3 dX11_plans_23 rfl fl_X11_67 (by decide) g3 rfl rfl (fun z => by cases z) ?_
    refine ex_iload_n (q := 27) dX11_plans_26 rfl rfl ?_
    obtain ⟨rfl, rfl⟩ := zr hF
    exact ex_ret (some (vi (gt h 7 (gt h 3 (gt h 11 l0 0) 7) 3))) rfl ⟨dX11_plans_27, Or.inl rfl⟩ ⟨rfl, rfl⟩
def F_X11_plans (l0 l1 : Int) (h : zH) : zO := F_X11_plans_0 l0 l1 h
theorem run_X11_plans {l0 l1 : Int} {h : zH} {r : Int} {h' : zH} (hF : F_X11_plans l0 l1 h = some (r, h')) : Run 0 yX11_plans cX11_plans 3 (some .int) [vr 11 l0, vi l1] h (some (vi r)) h' := run_of (M := M_X11_plans) (by decide) rfl (fun z => by cases z) (Nat.le_of_ble_eq_true rfl) (x_X11_plans_0 hF)
abbrev M_X11_act : zM := (RX11, (cX11_act, (1, ((some .int), false))))
def F_X11_act_0 (l0 : Int) (h : zH) : zO := if 0 ≤ l0 then (zb (F_X11_within (gt h 11 l0 2) 12 h) (fun r2 h2 => if r2 ≠ 0 then (if 0 ≤ cn h2 10 then (zb (F_X10_init (cn h2 10) (nw h2 10 10)) (fun r4 h4 => if 0 ≤ gt h2 11 l0 1 then (if 0 ≤ gt h2 11 l0 2 ∧ gt h2 11 l0 2 < 12 then (zl (pt (pt h4 49 (gt h2 11 l0 1) (gt h2 11 l0 2) (cn h2 10)) 11 l0 2 (wI ((gt (pt h4 49 (gt h2 11 l0 1) (gt h2 11 l0 2) (cn h2 10)) 11 l0 2) + 1))) (fun k8 => some (wI ((gt k8 11 l0 2) - 1), k8))) else none) else none)) else none) else (some ((-104), h2)))) else none
set_option maxHeartbeats 1000000 in
theorem x_X11_act_0 {l0 : Int} {h : zH} {r : Int} {h' : zH} (hF : F_X11_act_0 l0 h = some (r, h')) : Ex 2 M_X11_act 0 [some (vr 11 l0)] [] h (fun r1 h1 => r1 = some (vi r) ∧ h1 = h') := by
  unfold F_X11_act_0 at hF
  refine ex_aload_n (q := 1) dX11_act_0 rfl rfl ?_
  obtain ⟨g1, hF⟩ := zg hF
  refine ex_get (q := 4) (v := vi (gt h 11 l0 2)) 2 dX11_act_1 rfl fl_X11_70 g1 rfl rfl ?_
  refine ex_bipush (q := 6) dX11_act_4 rfl (by decide) ⟨by decide, by decide⟩ ?_
  obtain ⟨r2, h2, e2, hF⟩ := zb_some hF
  refine ex_callS (d' := 0) (q := 9) (as := [vi (gt h 11 l0 2), vi 12]) (st1 := [vi r2]) (r := (some (vi r2))) (h2 := h2) dX11_act_6 rfl (run_X11_within e2) mc_X11_within ms_X11_within ml_X11_31 (by decide) rfl rfl (Nat.le_of_ble_eq_true rfl) rfl ?_
  refine ex_if_ne (q := 12) (tgt := 15) dX11_act_9 rfl (by decide) (fun c3 => ?_) (fun c3 => ?_)
  · have hF := ip c3 hF
    refine ex_aload_n (q := 16) dX11_act_15 rfl rfl ?_
    refine ex_get (q := 19) (v := vr 49 (gt h2 11 l0 1)) 1 dX11_act_16 rfl fl_X11_18 g1 rfl rfl ?_
    refine ex_aload_n (q := 20) dX11_act_19 rfl rfl ?_
    refine ex_get (q := 23) (v := vi (gt h2 11 l0 2)) 2 dX11_act_20 rfl fl_X11_70 g1 rfl rfl ?_
    refine ex_new (q := 26) (c := 10) (n := cn h2 10) dX11_act_23 rfl (by decide) rfl (zTbl_i 183 (by decide +kernel) (by decide +kernel)) (zTbl_i 230 (by decide +kernel) (by decide +kernel)) (zTbl_i 82 (by decide +kernel) (by decide +kernel)) rfl ?_
    refine ex_dup (q := 27) dX11_act_26 rfl (fun _ z => by cases z) ?_
    obtain ⟨g5, hF⟩ := zg hF
    obtain ⟨r4, h4, e4, hF⟩ := zb_some hF
    refine ex_callI (d' := 1) (q := 30) (as := []) (st1 := [vr 10 (cn h2 10), vi (gt h2 11 l0 2), vr 49 (gt h2 11 l0 1)]) (r := none) (h2 := h4) dX11_act_27 rfl (run_X10_init e4) mc_X10_init mi_X10_init ml_X11_73 (by decide) (by decide) g5 rfl rfl (Nat.le_of_ble_eq_true rfl) rfl ?_
    obtain ⟨g6, hF⟩ := zg hF
    obtain ⟨g7, hF⟩ := zg hF
    refine ex_aast (q := 31) (kd := 10) dX11_act_30 rfl kd_49 (by decide) g6 g7.1 g7.2 ?_
    refine ex_aload_n (q := 32) dX11_act_31 rfl rfl ?_
    refine ex_dup (q := 33) dX11_act_32 rfl (fun _ z => by cases z) ?_
    refine ex_get (q := 36) (v := vi (gt (pt h4 49 (gt h2 11 l0 1) (gt h2 11 l0 2) (cn h2 10)) 11 l0 2)) 2 dX11_act_33 rfl fl_X11_70 g1 rfl rfl ?_
    refine ex_iconst (q := 37) dX11_act_36 rfl ⟨by decide, by decide⟩ ?_
    refine ex_iadd (q := 38) dX11_act_37 rfl ?_
    refine ex_put (q := 41) 2 dX11_act_38 rfl fl_X11_70 (by decide) g1 rfl rfl (fun z => by cases z) ?_
    have hF := zl_e hF
    generalize pt (pt h4 49 (gt h2 11 l0 1) (gt h2 11 l0 2) (cn h2 10)) 11 l0 2 (wI ((gt (pt h4 49 (gt h2 11 l0 1) (gt h2 11 l0 2) (cn h2 10)) 11 l0 2) + 1)) = k8 at hF ⊢
    refine ex_aload_n (q := 42) dX11_act_41 rfl rfl ?_
    refine ex_get (q := 45) (v := vi (gt k8 11 l0 2)) 2 dX11_act_42 rfl fl_X11_70 g1 rfl rfl ?_
    refine ex_iconst (q := 46) dX11_act_45 rfl ⟨by decide, by decide⟩ ?_
    refine ex_isub (q := 47) dX11_act_46 rfl ?_
    obtain ⟨rfl, rfl⟩ := zr hF
    exact ex_ret (some (vi (wI ((gt k8 11 l0 2) - 1)))) rfl ⟨dX11_act_47, Or.inl rfl⟩ ⟨rfl, rfl⟩
  · have hF := im c3 hF
    refine ex_bipush (q := 14) dX11_act_12 rfl (by decide) ⟨by decide, by decide⟩ ?_
    obtain ⟨rfl, rfl⟩ := zr hF
    exact ex_ret (some (vi (-104))) rfl ⟨dX11_act_14, Or.inl rfl⟩ ⟨rfl, rfl⟩
def F_X11_act (l0 : Int) (h : zH) : zO := F_X11_act_0 l0 h
theorem run_X11_act {l0 : Int} {h : zH} {r : Int} {h' : zH} (hF : F_X11_act l0 h = some (r, h')) : Run 2 yX11_act cX11_act 1 (some .int) [vr 11 l0] h (some (vi r)) h' := run_of (M := M_X11_act) (by decide) rfl (fun z => by cases z) (Nat.le_of_ble_eq_true rfl) (x_X11_act_0 hF)
abbrev M_X11_findScript : zM := (RX11, (cX11_findScript, (2, ((some (.object "HireScopes$Script")), false))))
def F_X11_findScript_0 (l0 l1 : Int) (h : zH) : zO := if 0 ≤ l0 then (zb (F_X11_within l1 12 h) (fun r2 h2 => if r2 = 0 then (some ((-1), h2)) else (if 0 ≤ l1 ∧ l1 < 12 then (some (gt h2 49 l0 l1, h2)) else none))) else none
set_option maxHeartbeats 1000000 in
theorem x_X11_findScript_0 {l0 l1 : Int} {h : zH} {r : Int} {h' : zH} (hF : F_X11_findScript_0 l0 l1 h = some (r, h')) : Ex 1 M_X11_findScript 0 [some (vr 49 l0), some (vi l1)] [] h (fun r1 h1 => r1 = some (vr 10 r) ∧ h1 = h') := by
  unfold F_X11_findScript_0 at hF
  refine ex_iload_n (q := 1) dX11_findScript_0 rfl rfl ?_
  refine ex_aload_n (q := 2) dX11_findScript_1 rfl rfl ?_
  obtain ⟨g1, hF⟩ := zg hF
  refine ex_alen (q := 3) (x := 12) dX11_findScript_2 rfl kd_49 g1 rfl ?_
  obtain ⟨r2, h2, e2, hF⟩ := zb_some hF
  refine ex_callS (d' := 0) (q := 6) (as := [vi l1, vi 12]) (st1 := [vi r2]) (r := (some (vi r2))) (h2 := h2) dX11_findScript_3 rfl (run_X11_within e2) mc_X11_within ms_X11_within ml_X11_31 (by decide) rfl rfl (Nat.le_of_ble_eq_true rfl) rfl ?_
  refine ex_if_eq (q := 9) (tgt := 15) dX11_findScript_6 rfl (by decide) (fun c3 => ?_) (fun c3 => ?_)
  · have hF := ip c3 hF
    refine ex_null (q := 16) 10 dX11_findScript_15 rfl ?_
    obtain ⟨rfl, rfl⟩ := zr hF
    exact ex_ret (some (vr 10 (-1))) rfl ⟨dX11_findScript_16, _, rfl⟩ ⟨rfl, rfl⟩
  · have hF := im c3 hF
    refine ex_aload_n (q := 10) dX11_findScript_9 rfl rfl ?_
    refine ex_iload_n (q := 11) dX11_findScript_10 rfl rfl ?_
    obtain ⟨g4, hF⟩ := zg hF
    refine ex_aald (q := 12) 10 dX11_findScript_11 rfl kd_49 (by decide) g1 g4.1 g4.2 ?_
    refine ex_goto (q := 16) dX11_findScript_12 (by decide) ?_
    obtain ⟨rfl, rfl⟩ := zr hF
    exact ex_ret (some (vr 10 (gt h2 49 l0 l1))) rfl ⟨dX11_findScript_16, _, rfl⟩ ⟨rfl, rfl⟩
def F_X11_findScript (l0 l1 : Int) (h : zH) : zO := F_X11_findScript_0 l0 l1 h
theorem run_X11_findScript {l0 l1 : Int} {h : zH} {r : Int} {h' : zH} (hF : F_X11_findScript l0 l1 h = some (r, h')) : Run 1 yX11_findScript cX11_findScript 2 (some (.object "HireScopes$Script")) [vr 49 l0, vi l1] h (some (vr 10 r)) h' := run_of (M := M_X11_findScript) (by decide) rfl (fun z => by cases z) (Nat.le_of_ble_eq_true rfl) (x_X11_findScript_0 hF)
abbrev M_X10_fits : zM := (RX10, (cX10_fits, (2, ((some .boolean), false))))
def F_X10_fits_0 (l0 l1 : Int) (h : zH) : zO := if l1 = (-1) then (some (1, h)) else (if l0 < 0 then (some (0, h)) else (if l1 < l0 then (some (0, h)) else (some (1, h))))
set_option maxHeartbeats 1000000 in
theorem x_X10_fits_0 {l0 l1 : Int} {h : zH} {r : Int} {h' : zH} (hF : F_X10_fits_0 l0 l1 h = some (r, h')) : Ex 0 M_X10_fits 0 [some (vi l0), some (vi l1)] [] h (fun r1 h1 => r1 = some (vi r) ∧ h1 = h') := by
  unfold F_X10_fits_0 at hF
  refine ex_iload_n (q := 1) dX10_fits_0 rfl rfl ?_
  refine ex_iconst (q := 2) dX10_fits_1 rfl ⟨by decide, by decide⟩ ?_
  refine ex_icmp_eq (q := 5) (tgt := 14) dX10_fits_2 rfl (by decide) (fun c1 => ?_) (fun c1 => ?_)
  · have hF := ip c1 hF
    refine ex_iconst (q := 15) dX10_fits_14 rfl ⟨by decide, by decide⟩ ?_
    refine ex_goto (q := 19) dX10_fits_15 (by decide) ?_
    obtain ⟨rfl, rfl⟩ := zr hF
    exact ex_ret (some (vi 1)) rfl ⟨dX10_fits_19, Or.inr ⟨rfl, (by decide)⟩⟩ ⟨rfl, rfl⟩
  · have hF := im c1 hF
    refine ex_iload_n (q := 6) dX10_fits_5 rfl rfl ?_
    refine ex_if_lt (q := 9) (tgt := 18) dX10_fits_6 rfl (by decide) (fun c2 => ?_) (fun c2 => ?_)
    · have hF := ip c2 hF
      refine ex_iconst (q := 19) dX10_fits_18 rfl ⟨by decide, by decide⟩ ?_
      obtain ⟨rfl, rfl⟩ := zr hF
      exact ex_ret (some (vi 0)) rfl ⟨dX10_fits_19, Or.inr ⟨rfl, (by decide)⟩⟩ ⟨rfl, rfl⟩
    · have hF := im c2 hF
      refine ex_iload_n (q := 10) dX10_fits_9 rfl rfl ?_
      refine ex_iload_n (q := 11) dX10_fits_10 rfl rfl ?_
      refine ex_icmp_gt (q := 14) (tgt := 18) dX10_fits_11 rfl (by decide) (fun c3 => ?_) (fun c3 => ?_)
      · have hF := ip c3 hF
        refine ex_iconst (q := 19) dX10_fits_18 rfl ⟨by decide, by decide⟩ ?_
        obtain ⟨rfl, rfl⟩ := zr hF
        exact ex_ret (some (vi 0)) rfl ⟨dX10_fits_19, Or.inr ⟨rfl, (by decide)⟩⟩ ⟨rfl, rfl⟩
      · have hF := im c3 hF
        refine ex_iconst (q := 15) dX10_fits_14 rfl ⟨by decide, by decide⟩ ?_
        refine ex_goto (q := 19) dX10_fits_15 (by decide) ?_
        obtain ⟨rfl, rfl⟩ := zr hF
        exact ex_ret (some (vi 1)) rfl ⟨dX10_fits_19, Or.inr ⟨rfl, (by decide)⟩⟩ ⟨rfl, rfl⟩
def F_X10_fits (l0 l1 : Int) (h : zH) : zO := F_X10_fits_0 l0 l1 h
theorem run_X10_fits {l0 l1 : Int} {h : zH} {r : Int} {h' : zH} (hF : F_X10_fits l0 l1 h = some (r, h')) : Run 0 yX10_fits cX10_fits 2 (some .boolean) [vi l0, vi l1] h (some (vi r)) h' := run_of (M := M_X10_fits) (by decide) rfl (fun z => by cases z) (Nat.le_of_ble_eq_true rfl) (x_X10_fits_0 hF)
abbrev M_X10_opAt : zM := (RX10, (cX10_opAt, (2, ((some .int), false))))
def F_X10_opAt_0 (l0 l1 : Int) (h : zH) : zO := if 0 ≤ l0 then (zb (F_X11_within l1 (gt h 10 l0 4) h) (fun r2 h2 => if r2 = 0 then (some ((-1), h2)) else (if 0 ≤ gt h2 10 l0 0 then (if 0 ≤ l1 ∧ l1 < 40 then (some (gt h2 43 (gt h2 10 l0 0) l1, h2)) else none) else none))) else none
set_option maxHeartbeats 1000000 in
theorem x_X10_opAt_0 {l0 l1 : Int} {h : zH} {r : Int} {h' : zH} (hF : F_X10_opAt_0 l0 l1 h = some (r, h')) : Ex 1 M_X10_opAt 0 [some (vr 10 l0), some (vi l1)] [] h (fun r1 h1 => r1 = some (vi r) ∧ h1 = h') := by
  unfold F_X10_opAt_0 at hF
  refine ex_iload_n (q := 1) dX10_opAt_0 rfl rfl ?_
  refine ex_aload_n (q := 2) dX10_opAt_1 rfl rfl ?_
  obtain ⟨g1, hF⟩ := zg hF
  refine ex_get (q := 5) (v := vi (gt h 10 l0 4)) 4 dX10_opAt_2 rfl fl_X10_30 g1 rfl rfl ?_
  obtain ⟨r2, h2, e2, hF⟩ := zb_some hF
  refine ex_callS (d' := 0) (q := 8) (as := [vi l1, vi (gt h 10 l0 4)]) (st1 := [vi r2]) (r := (some (vi r2))) (h2 := h2) dX10_opAt_5 rfl (run_X11_within e2) mc_X11_within ms_X11_within ml_X10_34 (by decide) rfl rfl (Nat.le_of_ble_eq_true rfl) rfl ?_
  refine ex_if_eq (q := 11) (tgt := 20) dX10_opAt_8 rfl (by decide) (fun c3 => ?_) (fun c3 => ?_)
  · have hF := ip c3 hF
    refine ex_iconst (q := 21) dX10_opAt_20 rfl ⟨by decide, by decide⟩ ?_
    obtain ⟨rfl, rfl⟩ := zr hF
    exact ex_ret (some (vi (-1))) rfl ⟨dX10_opAt_21, Or.inl rfl⟩ ⟨rfl, rfl⟩
  · have hF := im c3 hF
    refine ex_aload_n (q := 12) dX10_opAt_11 rfl rfl ?_
    refine ex_get (q := 15) (v := vr 43 (gt h2 10 l0 0)) 0 dX10_opAt_12 rfl fl_X10_9 g1 rfl rfl ?_
    refine ex_iload_n (q := 16) dX10_opAt_15 rfl rfl ?_
    obtain ⟨g4, hF⟩ := zg hF
    obtain ⟨g5, hF⟩ := zg hF
    refine ex_iald (q := 17) dX10_opAt_16 rfl kd_43 g4 g5.1 g5.2 ?_
    refine ex_goto (q := 21) dX10_opAt_17 (by decide) ?_
    obtain ⟨rfl, rfl⟩ := zr hF
    exact ex_ret (some (vi (gt h2 43 (gt h2 10 l0 0) l1))) rfl ⟨dX10_opAt_21, Or.inl rfl⟩ ⟨rfl, rfl⟩
def F_X10_opAt (l0 l1 : Int) (h : zH) : zO := F_X10_opAt_0 l0 l1 h
theorem run_X10_opAt {l0 l1 : Int} {h : zH} {r : Int} {h' : zH} (hF : F_X10_opAt l0 l1 h = some (r, h')) : Run 1 yX10_opAt cX10_opAt 2 (some .int) [vr 10 l0, vi l1] h (some (vi r)) h' := run_of (M := M_X10_opAt) (by decide) rfl (fun z => by cases z) (Nat.le_of_ble_eq_true rfl) (x_X10_opAt_0 hF)
abbrev M_X10_takesWays : zM := (RX10, (cX10_takesWays, (2, ((some .boolean), false))))
def F_X10_takesWays_0 (l0 : Int) (h : zH) : zO := if 0 ≤ l0 then (zb (F_X11_within (wI ((gt h 10 l0 9) - 1)) 8 h) (fun r2 h2 => if r2 = 0 then (some (0, h2)) else (if 0 ≤ gt h2 10 l0 7 then (if 0 ≤ wI ((gt h 10 l0 9) - 1) ∧ wI ((gt h 10 l0 9) - 1) < 8 then (zb (F_X10_opAt l0 (gt h2 47 (gt h2 10 l0 7) (wI ((gt h 10 l0 9) - 1))) h2) (fun r6 h6 => if r6 ≠ 13 then (some (0, h6)) else (if 0 ≤ gt h6 10 l0 8 then (zb (F_X10_opAt l0 (gt h6 48 (gt h6 10 l0 8) (wI ((gt h 10 l0 9) - 1))) h6) (fun r9 h9 => if r9 = 15 then (some (0, h9)) else (some (1, h9)))) else none))) else none) else none))) else none
set_option maxHeartbeats 1000000 in
theorem x_X10_takesWays_0 {l0 : Int} {h : zH} {r : Int} {h' : zH} (hF : F_X10_takesWays_0 l0 h = some (r, h')) : Ex 2 M_X10_takesWays 0 [some (vr 10 l0), none] [] h (fun r1 h1 => r1 = some (vi r) ∧ h1 = h') := by
  unfold F_X10_takesWays_0 at hF
  refine ex_aload_n (q := 1) dX10_takesWays_0 rfl rfl ?_
  obtain ⟨g1, hF⟩ := zg hF
  refine ex_get (q := 4) (v := vi (gt h 10 l0 9)) 9 dX10_takesWays_1 rfl fl_X10_52 g1 rfl rfl ?_
  refine ex_iconst (q := 5) dX10_takesWays_4 rfl ⟨by decide, by decide⟩ ?_
  refine ex_isub (q := 6) dX10_takesWays_5 rfl ?_
  refine ex_istore_n (q := 7) (lo' := [some (vr 10 l0), some (vi (wI ((gt h 10 l0 9) - 1)))]) dX10_takesWays_6 rfl (by decide) rfl rfl ?_
  refine ex_iload_n (q := 8) dX10_takesWays_7 rfl rfl ?_
  refine ex_bipush (q := 10) dX10_takesWays_8 rfl (by decide) ⟨by decide, by decide⟩ ?_
  obtain ⟨r2, h2, e2, hF⟩ := zb_some hF
  refine ex_callS (d' := 0) (q := 13) (as := [vi (wI ((gt h 10 l0 9) - 1)), vi 8]) (st1 := [vi r2]) (r := (some (vi r2))) (h2 := h2) dX10_takesWays_10 rfl (run_X11_within e2) mc_X11_within ms_X11_within ml_X10_34 (by decide) rfl rfl (Nat.le_of_ble_eq_true rfl) rfl ?_
  refine ex_if_eq (q := 16) (tgt := 50) dX10_takesWays_13 rfl (by decide) (fun c3 => ?_) (fun c3 => ?_)
  · have hF := ip c3 hF
    refine ex_iconst (q := 51) dX10_takesWays_50 rfl ⟨by decide, by decide⟩ ?_
    obtain ⟨rfl, rfl⟩ := zr hF
    exact ex_ret (some (vi 0)) rfl ⟨dX10_takesWays_51, Or.inr ⟨rfl, (by decide)⟩⟩ ⟨rfl, rfl⟩
  · have hF := im c3 hF
    refine ex_aload_n (q := 17) dX10_takesWays_16 rfl rfl ?_
    refine ex_aload_n (q := 18) dX10_takesWays_17 rfl rfl ?_
    refine ex_get (q := 21) (v := vr 47 (gt h2 10 l0 7)) 7 dX10_takesWays_18 rfl fl_X10_24 g1 rfl rfl ?_
    refine ex_iload_n (q := 22) dX10_takesWays_21 rfl rfl ?_
    obtain ⟨g4, hF⟩ := zg hF
    obtain ⟨g5, hF⟩ := zg hF
    refine ex_iald (q := 23) dX10_takesWays_22 rfl kd_47 g4 g5.1 g5.2 ?_
    obtain ⟨r6, h6, e6, hF⟩ := zb_some hF
    refine ex_callV (d' := 1) (q := 26) (as := [vi (gt h2 47 (gt h2 10 l0 7) (wI ((gt h 10 l0 9) - 1)))]) (st1 := [vi r6]) (r := (some (vi r6))) (h2 := h6) dX10_takesWays_23 rfl (run_X10_opAt e6) mc_X10_opAt mv_X10_opAt ml_X10_71 (by decide) g1 rfl rfl (Nat.le_of_ble_eq_true rfl) rfl ?_
    refine ex_bipush (q := 28) dX10_takesWays_26 rfl (by decide) ⟨by decide, by decide⟩ ?_
    refine ex_icmp_ne (q := 31) (tgt := 50) dX10_takesWays_28 rfl (by decide) (fun c7 => ?_) (fun c7 => ?_)
    · have hF := ip c7 hF
      refine ex_iconst (q := 51) dX10_takesWays_50 rfl ⟨by decide, by decide⟩ ?_
      obtain ⟨rfl, rfl⟩ := zr hF
      exact ex_ret (some (vi 0)) rfl ⟨dX10_takesWays_51, Or.inr ⟨rfl, (by decide)⟩⟩ ⟨rfl, rfl⟩
    · have hF := im c7 hF
      refine ex_aload_n (q := 32) dX10_takesWays_31 rfl rfl ?_
      refine ex_aload_n (q := 33) dX10_takesWays_32 rfl rfl ?_
      refine ex_get (q := 36) (v := vr 48 (gt h6 10 l0 8)) 8 dX10_takesWays_33 rfl fl_X10_27 g1 rfl rfl ?_
      refine ex_iload_n (q := 37) dX10_takesWays_36 rfl rfl ?_
      obtain ⟨g8, hF⟩ := zg hF
      refine ex_iald (q := 38) dX10_takesWays_37 rfl kd_48 g8 g5.1 g5.2 ?_
      obtain ⟨r9, h9, e9, hF⟩ := zb_some hF
      refine ex_callV (d' := 1) (q := 41) (as := [vi (gt h6 48 (gt h6 10 l0 8) (wI ((gt h 10 l0 9) - 1)))]) (st1 := [vi r9]) (r := (some (vi r9))) (h2 := h9) dX10_takesWays_38 rfl (run_X10_opAt e9) mc_X10_opAt mv_X10_opAt ml_X10_71 (by decide) g1 rfl rfl (Nat.le_of_ble_eq_true rfl) rfl ?_
      refine ex_bipush (q := 43) dX10_takesWays_41 rfl (by decide) ⟨by decide, by decide⟩ ?_
      refine ex_icmp_eq (q := 46) (tgt := 50) dX10_takesWays_43 rfl (by decide) (fun c10 => ?_) (fun c10 => ?_)
      · have hF := ip c10 hF
        refine ex_iconst (q := 51) dX10_takesWays_50 rfl ⟨by decide, by decide⟩ ?_
        obtain ⟨rfl, rfl⟩ := zr hF
        exact ex_ret (some (vi 0)) rfl ⟨dX10_takesWays_51, Or.inr ⟨rfl, (by decide)⟩⟩ ⟨rfl, rfl⟩
      · have hF := im c10 hF
        refine ex_iconst (q := 47) dX10_takesWays_46 rfl ⟨by decide, by decide⟩ ?_
        refine ex_goto (q := 51) dX10_takesWays_47 (by decide) ?_
        obtain ⟨rfl, rfl⟩ := zr hF
        exact ex_ret (some (vi 1)) rfl ⟨dX10_takesWays_51, Or.inr ⟨rfl, (by decide)⟩⟩ ⟨rfl, rfl⟩
def F_X10_takesWays (l0 : Int) (h : zH) : zO := F_X10_takesWays_0 l0 h
theorem run_X10_takesWays {l0 : Int} {h : zH} {r : Int} {h' : zH} (hF : F_X10_takesWays l0 h = some (r, h')) : Run 2 yX10_takesWays cX10_takesWays 2 (some .boolean) [vr 10 l0] h (some (vi r)) h' := run_of (M := M_X10_takesWays) (by decide) rfl (fun z => by cases z) (Nat.le_of_ble_eq_true rfl) (x_X10_takesWays_0 hF)
abbrev M_X10_isInLoop : zM := (RX10, (cX10_isInLoop, (2, ((some .boolean), false))))
def F_X10_isInLoop_2b (ag2 : Int → Int → zH → zO) (l0 l1 : Int) (h : zH) : zO := if 0 ≤ l0 then (if gt h 10 l0 9 ≤ l1 then (some (0, h)) else (if 0 ≤ gt h 10 l0 7 then (if 0 ≤ l1 ∧ l1 < 8 then (zb (F_X10_opAt l0 (gt h 47 (gt h 10 l0 7) l1) h) (fun r5 h5 => if r5 ≠ 11 then (ag2 l0 (wI (l1 + 1)) h5) else (some (1, h5)))) else none) else none)) else none
set_option maxHeartbeats 1000000 in
theorem x_X10_isInLoop_2b {ag2 : Int → Int → zH → zO} (hag2 : ∀ (l0 l1 : Int) (h : zH) (r : Int) (h' : zH), ag2 l0 l1 h = some (r, h') → Ex 2 M_X10_isInLoop 2 [some (vr 10 l0), some (vi l1)] [] h (fun r1 h1 => r1 = some (vi r) ∧ h1 = h')) {l0 l1 : Int} {h : zH} {r : Int} {h' : zH} (hF : F_X10_isInLoop_2b ag2 l0 l1 h = some (r, h')) : Ex 2 M_X10_isInLoop 2 [some (vr 10 l0), some (vi l1)] [] h (fun r1 h1 => r1 = some (vi r) ∧ h1 = h') := by
  unfold F_X10_isInLoop_2b at hF
  refine ex_iload_n (q := 3) dX10_isInLoop_2 rfl rfl ?_
  refine ex_aload_n (q := 4) dX10_isInLoop_3 rfl rfl ?_
  obtain ⟨g1, hF⟩ := zg hF
  refine ex_get (q := 7) (v := vi (gt h 10 l0 9)) 9 dX10_isInLoop_4 rfl fl_X10_52 g1 rfl rfl ?_
  refine ex_icmp_ge (q := 10) (tgt := 33) dX10_isInLoop_7 rfl (by decide) (fun c2 => ?_) (fun c2 => ?_)
  · have hF := ip c2 hF
    refine ex_iconst (q := 34) dX10_isInLoop_33 rfl ⟨by decide, by decide⟩ ?_
    obtain ⟨rfl, rfl⟩ := zr hF
    exact ex_ret (some (vi 0)) rfl ⟨dX10_isInLoop_34, Or.inr ⟨rfl, (by decide)⟩⟩ ⟨rfl, rfl⟩
  · have hF := im c2 hF
    refine ex_aload_n (q := 11) dX10_isInLoop_10 rfl rfl ?_
    refine ex_aload_n (q := 12) dX10_isInLoop_11 rfl rfl ?_
    refine ex_get (q := 15) (v := vr 47 (gt h 10 l0 7)) 7 dX10_isInLoop_12 rfl fl_X10_24 g1 rfl rfl ?_
    refine ex_iload_n (q := 16) dX10_isInLoop_15 rfl rfl ?_
    obtain ⟨g3, hF⟩ := zg hF
    obtain ⟨g4, hF⟩ := zg hF
    refine ex_iald (q := 17) dX10_isInLoop_16 rfl kd_47 g3 g4.1 g4.2 ?_
    obtain ⟨r5, h5, e5, hF⟩ := zb_some hF
    refine ex_callV (d' := 1) (q := 20) (as := [vi (gt h 47 (gt h 10 l0 7) l1)]) (st1 := [vi r5]) (r := (some (vi r5))) (h2 := h5) dX10_isInLoop_17 rfl (run_X10_opAt e5) mc_X10_opAt mv_X10_opAt ml_X10_71 (by decide) g1 rfl rfl (Nat.le_of_ble_eq_true rfl) rfl ?_
    refine ex_bipush (q := 22) dX10_isInLoop_20 rfl (by decide) ⟨by decide, by decide⟩ ?_
    refine ex_icmp_ne (q := 25) (tgt := 27) dX10_isInLoop_22 rfl (by decide) (fun c6 => ?_) (fun c6 => ?_)
    · have hF := ip c6 hF
      refine ex_iinc (q := 30) (lo' := [some (vr 10 l0), some (vi (wI (l1 + 1)))]) dX10_isInLoop_27 rfl rfl (by decide) rfl rfl ?_
      refine ex_goto (q := 2) dX10_isInLoop_30 (by decide) ?_
      exact ex_forget (lo' := [some (vr 10 l0), some (vi (wI (l1 + 1)))]) ⟨Or.inr rfl, Or.inr rfl, trivial⟩ (hag2 _ _ _ _ _ hF)
    · have hF := im c6 hF
      refine ex_iconst (q := 26) dX10_isInLoop_25 rfl ⟨by decide, by decide⟩ ?_
      obtain ⟨rfl, rfl⟩ := zr hF
      exact ex_ret (some (vi 1)) rfl ⟨dX10_isInLoop_26, Or.inr ⟨rfl, (by decide)⟩⟩ ⟨rfl, rfl⟩
def F_X10_isInLoop_2 : Nat → Int → Int → zH → zO
  | 0, _, _, _ => none
  | n + 1, l0, l1, h => F_X10_isInLoop_2b (F_X10_isInLoop_2 n) l0 l1 h
theorem x_X10_isInLoop_2 : ∀ (n : Nat) (l0 l1 : Int) (h : zH) (r : Int) (h' : zH), F_X10_isInLoop_2 n l0 l1 h = some (r, h') → Ex 2 M_X10_isInLoop 2 [some (vr 10 l0), some (vi l1)] [] h (fun r1 h1 => r1 = some (vi r) ∧ h1 = h')
  | 0, _, _, _, _, _, hF => by cases hF
  | n + 1, _, _, _, _, _, hF => x_X10_isInLoop_2b (x_X10_isInLoop_2 n) hF
def F_X10_isInLoop_0 (l0 : Int) (h : zH) : zO := F_X10_isInLoop_2 zF l0 0 h
set_option maxHeartbeats 1000000 in
theorem x_X10_isInLoop_0 {l0 : Int} {h : zH} {r : Int} {h' : zH} (hF : F_X10_isInLoop_0 l0 h = some (r, h')) : Ex 2 M_X10_isInLoop 0 [some (vr 10 l0), none] [] h (fun r1 h1 => r1 = some (vi r) ∧ h1 = h') := by
  unfold F_X10_isInLoop_0 at hF
  refine ex_iconst (q := 1) dX10_isInLoop_0 rfl ⟨by decide, by decide⟩ ?_
  refine ex_istore_n (q := 2) (lo' := [some (vr 10 l0), some (vi 0)]) dX10_isInLoop_1 rfl (by decide) rfl rfl ?_
  exact ex_forget (lo' := [some (vr 10 l0), some (vi 0)]) ⟨Or.inr rfl, Or.inr rfl, trivial⟩ (x_X10_isInLoop_2 _ _ _ _ _ _ hF)
def F_X10_isInLoop (l0 : Int) (h : zH) : zO := F_X10_isInLoop_0 l0 h
theorem run_X10_isInLoop {l0 : Int} {h : zH} {r : Int} {h' : zH} (hF : F_X10_isInLoop l0 h = some (r, h')) : Run 2 yX10_isInLoop cX10_isInLoop 2 (some .boolean) [vr 10 l0] h (some (vi r)) h' := run_of (M := M_X10_isInLoop) (by decide) rfl (fun z => by cases z) (Nat.le_of_ble_eq_true rfl) (x_X10_isInLoop_0 hF)
abbrev M_X10_faultOf : zM := (RX10, (cX10_faultOf, (4, ((some .int), false))))
def F_X10_faultOf_0 (l0 l1 l2 l3 : Int) (h : zH) : zO := zb (F_X11_within l1 17 h) (fun r1 h1 => if r1 = 0 then (some (1, h1)) else (if 0 ≤ l1 ∧ l1 < gt h1 100 0 (-1) then (zb (F_X10_fits l2 (gt h1 100 0 l1) h1) (fun r4 h4 => if r4 = 0 then (some (1, h4)) else (if 0 ≤ l1 ∧ l1 < gt h4 101 0 (-1) then (zb (F_X10_fits l3 (gt h4 101 0 l1) h4) (fun r7 h7 => if r7 ≠ 0 then (if l1 = 10 then (if 0 ≤ l0 then (zb (F_X10_isInLoop l0 h7) (fun r10 h10 => if r10 = 0 then (some (4, h10)) else (some (0, h10)))) else none) else (if l1 = 11 ∨ l1 = 12 ∨ l1 = 13 then (if 0 ≤ l0 then (if 8 ≤ gt h7 10 l0 9 then (some (3, h7)) else (some (0, h7))) else none) else (if l1 = 14 ∨ l1 = 15 then (if 0 ≤ l0 then (zb (F_X10_takesWays l0 h7) (fun r17 h17 => if r17 = 0 then (some (2, h17)) else (some (0, h17)))) else none) else (if l1 = 16 then (if 0 ≤ l0 then (if gt h7 10 l0 9 ≤ 0 then (some (2, h7)) else (some (0, h7))) else none) else (some (0, h7)))))) else (some (1, h7)))) else none))) else none))
set_option maxHeartbeats 1000000 in
theorem x_X10_faultOf_0 {l0 l1 l2 l3 : Int} {h : zH} {r : Int} {h' : zH} (hF : F_X10_faultOf_0 l0 l1 l2 l3 h = some (r, h')) : Ex 3 M_X10_faultOf 0 [some (vr 10 l0), some (vi l1), some (vi l2), some (vi l3)] [] h (fun r1 h1 => r1 = some (vi r) ∧ h1 = h') := by
  unfold F_X10_faultOf_0 at hF
  refine ex_iload_n (q := 1) dX10_faultOf_0 rfl rfl ?_
  refine ex_bipush (q := 3) dX10_faultOf_1 rfl (by decide) ⟨by decide, by decide⟩ ?_
  obtain ⟨r1, h1, e1, hF⟩ := zb_some hF
  refine ex_callS (d' := 0) (q := 6) (as := [vi l1, vi 17]) (st1 := [vi r1]) (r := (some (vi r1))) (h2 := h1) dX10_faultOf_3 rfl (run_X11_within e1) mc_X11_within ms_X11_within ml_X10_34 (by decide) rfl rfl (Nat.le_of_ble_eq_true rfl) rfl ?_
  refine ex_if_eq (q := 9) (tgt := 33) dX10_faultOf_6 rfl (by decide) (fun c2 => ?_) (fun c2 => ?_)
  · have hF := ip c2 hF
    refine ex_iconst (q := 34) dX10_faultOf_33 rfl ⟨by decide, by decide⟩ ?_
    obtain ⟨rfl, rfl⟩ := zr hF
    exact ex_ret (some (vi 1)) rfl ⟨dX10_faultOf_34, Or.inl rfl⟩ ⟨rfl, rfl⟩
  · have hF := im c2 hF
    refine ex_iload_n (q := 10) dX10_faultOf_9 rfl rfl ?_
    refine ex_gets (q := 13) dX10_faultOf_10 rfl sl_10_55 ?_
    refine ex_iload_n (q := 14) dX10_faultOf_13 rfl rfl ?_
    obtain ⟨g3, hF⟩ := zg hF
    refine ex_ialdS (q := 15) dX10_faultOf_14 rfl (by decide) (by decide) g3.1 g3.2 ?_
    obtain ⟨r4, h4, e4, hF⟩ := zb_some hF
    refine ex_callS (d' := 0) (q := 18) (as := [vi l2, vi (gt h1 100 0 l1)]) (st1 := [vi r4]) (r := (some (vi r4))) (h2 := h4) dX10_faultOf_15 rfl (run_X10_fits e4) mc_X10_fits ms_X10_fits ml_X10_58 (by decide) rfl rfl (Nat.le_of_ble_eq_true rfl) rfl ?_
    refine ex_if_eq (q := 21) (tgt := 33) dX10_faultOf_18 rfl (by decide) (fun c5 => ?_) (fun c5 => ?_)
    · have hF := ip c5 hF
      refine ex_iconst (q := 34) dX10_faultOf_33 rfl ⟨by decide, by decide⟩ ?_
      obtain ⟨rfl, rfl⟩ := zr hF
      exact ex_ret (some (vi 1)) rfl ⟨dX10_faultOf_34, Or.inl rfl⟩ ⟨rfl, rfl⟩
    · have hF := im c5 hF
      refine ex_iload_n (q := 22) dX10_faultOf_21 rfl rfl ?_
      refine ex_gets (q := 25) dX10_faultOf_22 rfl sl_10_61 ?_
      refine ex_iload_n (q := 26) dX10_faultOf_25 rfl rfl ?_
      obtain ⟨g6, hF⟩ := zg hF
      refine ex_ialdS (q := 27) dX10_faultOf_26 rfl (by decide) (by decide) g6.1 g6.2 ?_
      obtain ⟨r7, h7, e7, hF⟩ := zb_some hF
      refine ex_callS (d' := 0) (q := 30) (as := [vi l3, vi (gt h4 101 0 l1)]) (st1 := [vi r7]) (r := (some (vi r7))) (h2 := h7) dX10_faultOf_27 rfl (run_X10_fits e7) mc_X10_fits ms_X10_fits ml_X10_58 (by decide) rfl rfl (Nat.le_of_ble_eq_true rfl) rfl ?_
      refine ex_if_ne (q := 33) (tgt := 35) dX10_faultOf_30 rfl (by decide) (fun c8 => ?_) (fun c8 => ?_)
      · have hF := ip c8 hF
        refine ex_iload_n (q := 36) dX10_faultOf_35 rfl rfl ?_
        by_cases c9 : l1 = 10
        · have hF := ip c9 hF
          refine ex_tsw 10 (tgt := 121) dX10_faultOf_36 c9 (by decide) (by decide) rfl (by decide) ?_
          refine ex_aload_n (q := 122) dX10_faultOf_121 rfl rfl ?_
          obtain ⟨g11, hF⟩ := zg hF
          obtain ⟨r10, h10, e10, hF⟩ := zb_some hF
          refine ex_callV (d' := 2) (q := 125) (as := []) (st1 := [vi r10]) (r := (some (vi r10))) (h2 := h10) dX10_faultOf_122 rfl (run_X10_isInLoop e10) mc_X10_isInLoop mv_X10_isInLoop ml_X10_68 (by decide) g11 rfl rfl (Nat.le_of_ble_eq_true rfl) rfl ?_
          refine ex_if_eq (q := 128) (tgt := 132) dX10_faultOf_125 rfl (by decide) (fun c12 => ?_) (fun c12 => ?_)
          · have hF := ip c12 hF
            refine ex_iconst (q := 133) dX10_faultOf_132 rfl ⟨by decide, by decide⟩ ?_
            obtain ⟨rfl, rfl⟩ := zr hF
            exact ex_ret (some (vi 4)) rfl ⟨dX10_faultOf_133, Or.inl rfl⟩ ⟨rfl, rfl⟩
          · have hF := im c12 hF
            refine ex_iconst (q := 129) dX10_faultOf_128 rfl ⟨by decide, by decide⟩ ?_
            refine ex_goto (q := 133) dX10_faultOf_129 (by decide) ?_
            obtain ⟨rfl, rfl⟩ := zr hF
            exact ex_ret (some (vi 0)) rfl ⟨dX10_faultOf_133, Or.inl rfl⟩ ⟨rfl, rfl⟩
        · have hF := im c9 hF
          by_cases c13 : l1 = 11 ∨ l1 = 12 ∨ l1 = 13
          · have hF := ip c13 hF
            have K : Ex 3 M_X10_faultOf 106 [some (vr 10 l0), some (vi l1), some (vi l2), some (vi l3)] [] h7 (fun r1 h1 => r1 = some (vi r) ∧ h1 = h') := by
              refine ex_aload_n (q := 107) dX10_faultOf_106 rfl rfl ?_
              obtain ⟨g14, hF⟩ := zg hF
              refine ex_get (q := 110) (v := vi (gt h7 10 l0 9)) 9 dX10_faultOf_107 rfl fl_X10_52 g14 rfl rfl ?_
              refine ex_bipush (q := 112) dX10_faultOf_110 rfl (by decide) ⟨by decide, by decide⟩ ?_
              refine ex_icmp_ge (q := 115) (tgt := 119) dX10_faultOf_112 rfl (by decide) (fun c15 => ?_) (fun c15 => ?_)
              · have hF := ip c15 hF
                refine ex_iconst (q := 120) dX10_faultOf_119 rfl ⟨by decide, by decide⟩ ?_
                obtain ⟨rfl, rfl⟩ := zr hF
                exact ex_ret (some (vi 3)) rfl ⟨dX10_faultOf_120, Or.inl rfl⟩ ⟨rfl, rfl⟩
              · have hF := im c15 hF
                refine ex_iconst (q := 116) dX10_faultOf_115 rfl ⟨by decide, by decide⟩ ?_
                refine ex_goto (q := 120) dX10_faultOf_116 (by decide) ?_
                obtain ⟨rfl, rfl⟩ := zr hF
                exact ex_ret (some (vi 0)) rfl ⟨dX10_faultOf_120, Or.inl rfl⟩ ⟨rfl, rfl⟩
            rcases c13 with c13 | c13 | c13
            · exact ex_tsw 11 (tgt := 106) dX10_faultOf_36 c13 (by decide) (by decide) rfl (by decide) K
            · exact ex_tsw 12 (tgt := 106) dX10_faultOf_36 c13 (by decide) (by decide) rfl (by decide) K
            · exact ex_tsw 13 (tgt := 106) dX10_faultOf_36 c13 (by decide) (by decide) rfl (by decide) K
          · have hF := im c13 hF
            by_cases c16 : l1 = 14 ∨ l1 = 15
            · have hF := ip c16 hF
              have K : Ex 3 M_X10_faultOf 93 [some (vr 10 l0), some (vi l1), some (vi l2), some (vi l3)] [] h7 (fun r1 h1 => r1 = some (vi r) ∧ h1 = h') := by
                refine ex_aload_n (q := 94) dX10_faultOf_93 rfl rfl ?_
                obtain ⟨g18, hF⟩ := zg hF
                obtain ⟨r17, h17, e17, hF⟩ := zb_some hF
                refine ex_callV (d' := 2) (q := 97) (as := []) (st1 := [vi r17]) (r := (some (vi r17))) (h2 := h17) dX10_faultOf_94 rfl (run_X10_takesWays e17) mc_X10_takesWays mv_X10_takesWays ml_X10_64 (by decide) g18 rfl rfl (Nat.le_of_ble_eq_true rfl) rfl ?_
                refine ex_if_eq (q := 100) (tgt := 104) dX10_faultOf_97 rfl (by decide) (fun c19 => ?_) (fun c19 => ?_)
                · have hF := ip c19 hF
                  refine ex_iconst (q := 105) dX10_faultOf_104 rfl ⟨by decide, by decide⟩ ?_
                  obtain ⟨rfl, rfl⟩ := zr hF
                  exact ex_ret (some (vi 2)) rfl ⟨dX10_faultOf_105, Or.inl rfl⟩ ⟨rfl, rfl⟩
                · have hF := im c19 hF
                  refine ex_iconst (q := 101) dX10_faultOf_100 rfl ⟨by decide, by decide⟩ ?_
                  refine ex_goto (q := 105) dX10_faultOf_101 (by decide) ?_
                  obtain ⟨rfl, rfl⟩ := zr hF
                  exact ex_ret (some (vi 0)) rfl ⟨dX10_faultOf_105, Or.inl rfl⟩ ⟨rfl, rfl⟩
              rcases c16 with c16 | c16
              · exact ex_tsw 14 (tgt := 93) dX10_faultOf_36 c16 (by decide) (by decide) rfl (by decide) K
              · exact ex_tsw 15 (tgt := 93) dX10_faultOf_36 c16 (by decide) (by decide) rfl (by decide) K
            · have hF := im c16 hF
              by_cases c20 : l1 = 16
              · have hF := ip c20 hF
                refine ex_tsw 16 (tgt := 80) dX10_faultOf_36 c20 (by decide) (by decide) rfl (by decide) ?_
                refine ex_aload_n (q := 81) dX10_faultOf_80 rfl rfl ?_
                obtain ⟨g21, hF⟩ := zg hF
                refine ex_get (q := 84) (v := vi (gt h7 10 l0 9)) 9 dX10_faultOf_81 rfl fl_X10_52 g21 rfl rfl ?_
                refine ex_if_le (q := 87) (tgt := 91) dX10_faultOf_84 rfl (by decide) (fun c22 => ?_) (fun c22 => ?_)
                · have hF := ip c22 hF
                  refine ex_iconst (q := 92) dX10_faultOf_91 rfl ⟨by decide, by decide⟩ ?_
                  obtain ⟨rfl, rfl⟩ := zr hF
                  exact ex_ret (some (vi 2)) rfl ⟨dX10_faultOf_92, Or.inl rfl⟩ ⟨rfl, rfl⟩
                · have hF := im c22 hF
                  refine ex_iconst (q := 88) dX10_faultOf_87 rfl ⟨by decide, by decide⟩ ?_
                  refine ex_goto (q := 92) dX10_faultOf_88 (by decide) ?_
                  obtain ⟨rfl, rfl⟩ := zr hF
                  exact ex_ret (some (vi 0)) rfl ⟨dX10_faultOf_92, Or.inl rfl⟩ ⟨rfl, rfl⟩
              · have hF := im c20 hF
                refine ex_tswD (tgt := 134) dX10_faultOf_36 (by omega) (by decide) ?_
                refine ex_iconst (q := 135) dX10_faultOf_134 rfl ⟨by decide, by decide⟩ ?_
                obtain ⟨rfl, rfl⟩ := zr hF
                exact ex_ret (some (vi 0)) rfl ⟨dX10_faultOf_135, Or.inl rfl⟩ ⟨rfl, rfl⟩
      · have hF := im c8 hF
        refine ex_iconst (q := 34) dX10_faultOf_33 rfl ⟨by decide, by decide⟩ ?_
        obtain ⟨rfl, rfl⟩ := zr hF
        exact ex_ret (some (vi 1)) rfl ⟨dX10_faultOf_34, Or.inl rfl⟩ ⟨rfl, rfl⟩
def F_X10_faultOf (l0 l1 l2 l3 : Int) (h : zH) : zO := F_X10_faultOf_0 l0 l1 l2 l3 h
theorem run_X10_faultOf {l0 l1 l2 l3 : Int} {h : zH} {r : Int} {h' : zH} (hF : F_X10_faultOf l0 l1 l2 l3 h = some (r, h')) : Run 3 yX10_faultOf cX10_faultOf 4 (some .int) [vr 10 l0, vi l1, vi l2, vi l3] h (some (vi r)) h' := run_of (M := M_X10_faultOf) (by decide) rfl (fun z => by cases z) (Nat.le_of_ble_eq_true rfl) (x_X10_faultOf_0 hF)
abbrev M_X10_linkMark : zM := (RX10, (cX10_linkMark, (4, (none, false))))
def F_X10_linkMark_43 (l0 l1 l2 l3 : Int) (h : zH) : zO := if 0 ≤ l0 then (if 0 ≤ gt h 10 l0 8 then (if 0 ≤ l3 ∧ l3 < 8 then (if l1 ≠ 16 then (some (0, (pt h 48 (gt h 10 l0 8) l3 l2))) else (some (0, (pt (pt h 48 (gt h 10 l0 8) l3 l2) 10 l0 9 (wI ((gt (pt h 48 (gt h 10 l0 8) l3 l2) 10 l0 9) - 1)))))) else none) else none) else none
set_option maxHeartbeats 1000000 in
theorem x_X10_linkMark_43 {l0 l1 l2 l3 : Int} {h : zH} {r : Int} {h' : zH} (hF : F_X10_linkMark_43 l0 l1 l2 l3 h = some (r, h')) : Ex 1 M_X10_linkMark 43 [some (vr 10 l0), some (vi l1), some (vi l2), some (vi l3)] [] h (fun r1 h1 => r1 = none ∧ h1 = h') := by
  unfold F_X10_linkMark_43 at hF
  refine ex_aload_n (q := 44) dX10_linkMark_43 rfl rfl ?_
  obtain ⟨g1, hF⟩ := zg hF
  refine ex_get (q := 47) (v := vr 48 (gt h 10 l0 8)) 8 dX10_linkMark_44 rfl fl_X10_27 g1 rfl rfl ?_
  refine ex_iload_n (q := 48) dX10_linkMark_47 rfl rfl ?_
  refine ex_iload_n (q := 49) dX10_linkMark_48 rfl rfl ?_
  obtain ⟨g2, hF⟩ := zg hF
  obtain ⟨g3, hF⟩ := zg hF
  refine ex_iast (q := 50) dX10_linkMark_49 rfl kd_48 g2 g3.1 g3.2 ?_
  refine ex_iload_n (q := 51) dX10_linkMark_50 rfl rfl ?_
  refine ex_bipush (q := 53) dX10_linkMark_51 rfl (by decide) ⟨by decide, by decide⟩ ?_
  refine ex_icmp_ne (q := 56) (tgt := 66) dX10_linkMark_53 rfl (by decide) (fun c4 => ?_) (fun c4 => ?_)
  · have hF := ip c4 hF
    obtain ⟨rfl, rfl⟩ := zr hF
    exact ex_ret none rfl ⟨dX10_linkMark_66, rfl⟩ ⟨rfl, rfl⟩
  · have hF := im c4 hF
    refine ex_aload_n (q := 57) dX10_linkMark_56 rfl rfl ?_
    refine ex_dup (q := 58) dX10_linkMark_57 rfl (fun _ z => by cases z) ?_
    refine ex_get (q := 61) (v := vi (gt (pt h 48 (gt h 10 l0 8) l3 l2) 10 l0 9)) 9 dX10_linkMark_58 rfl fl_X10_52 g1 rfl rfl ?_
    refine ex_iconst (q := 62) dX10_linkMark_61 rfl ⟨by decide, by decide⟩ ?_
    refine ex_isub (q := 63) dX10_linkMark_62 rfl ?_
    refine ex_put (q := 66) 9 dX10_linkMark_63 rfl fl_X10_52 (by decide) g1 rfl rfl (fun z => by cases z) ?_
    obtain ⟨rfl, rfl⟩ := zr hF
    exact ex_ret none rfl ⟨dX10_linkMark_66, rfl⟩ ⟨rfl, rfl⟩
def F_X10_linkMark_0 (l0 l1 l2 : Int) (h : zH) : zO := if 0 ≤ l0 then (zb (F_X11_within (wI ((gt h 10 l0 9) - 1)) 8 h) (fun r2 h2 => if r2 ≠ 0 then (if 0 ≤ gt h2 10 l0 8 then (if 0 ≤ wI ((gt h 10 l0 9) - 1) ∧ wI ((gt h 10 l0 9) - 1) < 8 then (zb (F_X11_within (gt h2 48 (gt h2 10 l0 8) (wI ((gt h 10 l0 9) - 1))) 40 h2) (fun r6 h6 => if r6 = 0 then (F_X10_linkMark_43 l0 l1 l2 (wI ((gt h 10 l0 9) - 1)) h6) else (if 0 ≤ gt h6 10 l0 8 then (if 0 ≤ gt h6 10 l0 3 then (if 0 ≤ gt h6 48 (gt h6 10 l0 8) (wI ((gt h 10 l0 9) - 1)) ∧ gt h6 48 (gt h6 10 l0 8) (wI ((gt h 10 l0 9) - 1)) < 40 then (F_X10_linkMark_43 l0 l1 l2 (wI ((gt h 10 l0 9) - 1)) (pt h6 46 (gt h6 10 l0 3) (gt h6 48 (gt h6 10 l0 8) (wI ((gt h 10 l0 9) - 1))) l2)) else none) else none) else none))) else none) else none) else (some (0, h2)))) else none
set_option maxHeartbeats 1000000 in
theorem x_X10_linkMark_0 {l0 l1 l2 : Int} {h : zH} {r : Int} {h' : zH} (hF : F_X10_linkMark_0 l0 l1 l2 h = some (r, h')) : Ex 1 M_X10_linkMark 0 [some (vr 10 l0), some (vi l1), some (vi l2), none] [] h (fun r1 h1 => r1 = none ∧ h1 = h') := by
  unfold F_X10_linkMark_0 at hF
  refine ex_aload_n (q := 1) dX10_linkMark_0 rfl rfl ?_
  obtain ⟨g1, hF⟩ := zg hF
  refine ex_get (q := 4) (v := vi (gt h 10 l0 9)) 9 dX10_linkMark_1 rfl fl_X10_52 g1 rfl rfl ?_
  refine ex_iconst (q := 5) dX10_linkMark_4 rfl ⟨by decide, by decide⟩ ?_
  refine ex_isub (q := 6) dX10_linkMark_5 rfl ?_
  refine ex_istore_n (q := 7) (lo' := [some (vr 10 l0), some (vi l1), some (vi l2), some (vi (wI ((gt h 10 l0 9) - 1)))]) dX10_linkMark_6 rfl (by decide) rfl rfl ?_
  refine ex_iload_n (q := 8) dX10_linkMark_7 rfl rfl ?_
  refine ex_bipush (q := 10) dX10_linkMark_8 rfl (by decide) ⟨by decide, by decide⟩ ?_
  obtain ⟨r2, h2, e2, hF⟩ := zb_some hF
  refine ex_callS (d' := 0) (q := 13) (as := [vi (wI ((gt h 10 l0 9) - 1)), vi 8]) (st1 := [vi r2]) (r := (some (vi r2))) (h2 := h2) dX10_linkMark_10 rfl (run_X11_within e2) mc_X11_within ms_X11_within ml_X10_34 (by decide) rfl rfl (Nat.le_of_ble_eq_true rfl) rfl ?_
  refine ex_if_ne (q := 16) (tgt := 17) dX10_linkMark_13 rfl (by decide) (fun c3 => ?_) (fun c3 => ?_)
  · have hF := ip c3 hF
    refine ex_aload_n (q := 18) dX10_linkMark_17 rfl rfl ?_
    refine ex_get (q := 21) (v := vr 48 (gt h2 10 l0 8)) 8 dX10_linkMark_18 rfl fl_X10_27 g1 rfl rfl ?_
    refine ex_iload_n (q := 22) dX10_linkMark_21 rfl rfl ?_
    obtain ⟨g4, hF⟩ := zg hF
    obtain ⟨g5, hF⟩ := zg hF
    refine ex_iald (q := 23) dX10_linkMark_22 rfl kd_48 g4 g5.1 g5.2 ?_
    refine ex_bipush (q := 25) dX10_linkMark_23 rfl (by decide) ⟨by decide, by decide⟩ ?_
    obtain ⟨r6, h6, e6, hF⟩ := zb_some hF
    refine ex_callS (d' := 0) (q := 28) (as := [vi (gt h2 48 (gt h2 10 l0 8) (wI ((gt h 10 l0 9) - 1))), vi 40]) (st1 := [vi r6]) (r := (some (vi r6))) (h2 := h6) dX10_linkMark_25 rfl (run_X11_within e6) mc_X11_within ms_X11_within ml_X10_34 (by decide) rfl rfl (Nat.le_of_ble_eq_true rfl) rfl ?_
    refine ex_if_eq (q := 31) (tgt := 43) dX10_linkMark_28 rfl (by decide) (fun c7 => ?_) (fun c7 => ?_)
    · have hF := ip c7 hF
      exact ex_forget (lo' := [some (vr 10 l0), some (vi l1), some (vi l2), some (vi (wI ((gt h 10 l0 9) - 1)))]) ⟨Or.inr rfl, Or.inr rfl, Or.inr rfl, Or.inr rfl, trivial⟩ (x_X10_linkMark_43 hF)
    · have hF := im c7 hF
      refine ex_aload_n (q := 32) dX10_linkMark_31 rfl rfl ?_
      refine ex_get (q := 35) (v := vr 46 (gt h6 10 l0 3)) 3 dX10_linkMark_32 rfl fl_X10_21 g1 rfl rfl ?_
      refine ex_aload_n (q := 36) dX10_linkMark_35 rfl rfl ?_
      refine ex_get (q := 39) (v := vr 48 (gt h6 10 l0 8)) 8 dX10_linkMark_36 rfl fl_X10_27 g1 rfl rfl ?_
      refine ex_iload_n (q := 40) dX10_linkMark_39 rfl rfl ?_
      obtain ⟨g8, hF⟩ := zg hF
      refine ex_iald (q := 41) dX10_linkMark_40 rfl kd_48 g8 g5.1 g5.2 ?_
      refine ex_iload_n (q := 42) dX10_linkMark_41 rfl rfl ?_
      obtain ⟨g9, hF⟩ := zg hF
      obtain ⟨g10, hF⟩ := zg hF
      refine ex_iast (q := 43) dX10_linkMark_42 rfl kd_46 g9 g10.1 g10.2 ?_
      exact ex_forget (lo' := [some (vr 10 l0), some (vi l1), some (vi l2), some (vi (wI ((gt h 10 l0 9) - 1)))]) ⟨Or.inr rfl, Or.inr rfl, Or.inr rfl, Or.inr rfl, trivial⟩ (x_X10_linkMark_43 hF)
  · have hF := im c3 hF
    obtain ⟨rfl, rfl⟩ := zr hF
    exact ex_ret none rfl ⟨dX10_linkMark_16, rfl⟩ ⟨rfl, rfl⟩
def F_X10_linkMark (l0 l1 l2 : Int) (h : zH) : zO := F_X10_linkMark_0 l0 l1 l2 h
theorem run_X10_linkMark {l0 l1 l2 : Int} {h : zH} {r : Int} {h' : zH} (hF : F_X10_linkMark l0 l1 l2 h = some (r, h')) : Run 1 yX10_linkMark cX10_linkMark 4 none [vr 10 l0, vi l1, vi l2] h none h' := run_of (M := M_X10_linkMark) (by decide) rfl (fun z => by cases z) (Nat.le_of_ble_eq_true rfl) (x_X10_linkMark_0 hF)
abbrev M_X10_place : zM := (RX10, (cX10_place, (3, (none, false))))
def F_X10_place_81 (l0 l1 l2 : Int) (h : zH) : zO := if 0 ≤ l0 then (zb (F_X10_linkMark l0 l1 l2 h) (fun r1 h1 => some (0, h1))) else none
set_option maxHeartbeats 1000000 in
theorem x_X10_place_81 {l0 l1 l2 : Int} {h : zH} {r : Int} {h' : zH} (hF : F_X10_place_81 l0 l1 l2 h = some (r, h')) : Ex 2 M_X10_place 81 [some (vr 10 l0), some (vi l1), some (vi l2)] [] h (fun r1 h1 => r1 = none ∧ h1 = h') := by
  unfold F_X10_place_81 at hF
  refine ex_aload_n (q := 82) dX10_place_81 rfl rfl ?_
  refine ex_iload_n (q := 83) dX10_place_82 rfl rfl ?_
  refine ex_iload_n (q := 84) dX10_place_83 rfl rfl ?_
  obtain ⟨g2, hF⟩ := zg hF
  obtain ⟨r1, h1, e1, hF⟩ := zb_some hF
  refine ex_callV (d' := 1) (q := 87) (as := [vi l1, vi l2]) (st1 := []) (r := none) (h2 := h1) dX10_place_84 rfl (run_X10_linkMark e1) mc_X10_linkMark mv_X10_linkMark ml_X10_75 (by decide) g2 rfl rfl (Nat.le_of_ble_eq_true rfl) rfl ?_
  obtain ⟨rfl, rfl⟩ := zr hF
  exact ex_ret none rfl ⟨dX10_place_87, rfl⟩ ⟨rfl, rfl⟩
def F_X10_place_18 (l0 l2 : Int) (h : zH) : zO := if 0 ≤ l0 then (zb (F_X11_within (gt h 10 l0 9) 8 h) (fun r2 h2 => if r2 = 0 then (some (0, h2)) else (if 0 ≤ gt h2 10 l0 7 then (if 0 ≤ gt h2 10 l0 9 ∧ gt h2 10 l0 9 < 8 then (if 0 ≤ gt (pt h2 47 (gt h2 10 l0 7) (gt h2 10 l0 9) l2) 10 l0 8 then (if 0 ≤ gt (pt h2 47 (gt h2 10 l0 7) (gt h2 10 l0 9) l2) 10 l0 9 ∧ gt (pt h2 47 (gt h2 10 l0 7) (gt h2 10 l0 9) l2) 10 l0 9 < 8 then (zl (pt (pt h2 47 (gt h2 10 l0 7) (gt h2 10 l0 9) l2) 48 (gt (pt h2 47 (gt h2 10 l0 7) (gt h2 10 l0 9) l2) 10 l0 8) (gt (pt h2 47 (gt h2 10 l0 7) (gt h2 10 l0 9) l2) 10 l0 9) l2) (fun k8 => some (0, (pt k8 10 l0 9 (wI ((gt k8 10 l0 9) + 1)))))) else none) else none) else none) else none))) else none
set_option maxHeartbeats 1000000 in
theorem x_X10_place_18 {l0 l2 : Int} {h : zH} {r : Int} {h' : zH} (hF : F_X10_place_18 l0 l2 h = some (r, h')) : Ex 2 M_X10_place 18 [some (vr 10 l0), none, some (vi l2)] [] h (fun r1 h1 => r1 = none ∧ h1 = h') := by
  unfold F_X10_place_18 at hF
  refine ex_aload_n (q := 19) dX10_place_18 rfl rfl ?_
  obtain ⟨g1, hF⟩ := zg hF
  refine ex_get (q := 22) (v := vi (gt h 10 l0 9)) 9 dX10_place_19 rfl fl_X10_52 g1 rfl rfl ?_
  refine ex_bipush (q := 24) dX10_place_22 rfl (by decide) ⟨by decide, by decide⟩ ?_
  obtain ⟨r2, h2, e2, hF⟩ := zb_some hF
  refine ex_callS (d' := 0) (q := 27) (as := [vi (gt h 10 l0 9), vi 8]) (st1 := [vi r2]) (r := (some (vi r2))) (h2 := h2) dX10_place_24 rfl (run_X11_within e2) mc_X11_within ms_X11_within ml_X10_34 (by decide) rfl rfl (Nat.le_of_ble_eq_true rfl) rfl ?_
  refine ex_if_eq (q := 30) (tgt := 87) dX10_place_27 rfl (by decide) (fun c3 => ?_) (fun c3 => ?_)
  · have hF := ip c3 hF
    obtain ⟨rfl, rfl⟩ := zr hF
    exact ex_ret none rfl ⟨dX10_place_87, rfl⟩ ⟨rfl, rfl⟩
  · have hF := im c3 hF
    refine ex_aload_n (q := 31) dX10_place_30 rfl rfl ?_
    refine ex_get (q := 34) (v := vr 47 (gt h2 10 l0 7)) 7 dX10_place_31 rfl fl_X10_24 g1 rfl rfl ?_
    refine ex_aload_n (q := 35) dX10_place_34 rfl rfl ?_
    refine ex_get (q := 38) (v := vi (gt h2 10 l0 9)) 9 dX10_place_35 rfl fl_X10_52 g1 rfl rfl ?_
    refine ex_iload_n (q := 39) dX10_place_38 rfl rfl ?_
    obtain ⟨g4, hF⟩ := zg hF
    obtain ⟨g5, hF⟩ := zg hF
    refine ex_iast (q := 40) dX10_place_39 rfl kd_47 g4 g5.1 g5.2 ?_
    refine ex_aload_n (q := 41) dX10_place_40 rfl rfl ?_
    refine ex_get (q := 44) (v := vr 48 (gt (pt h2 47 (gt h2 10 l0 7) (gt h2 10 l0 9) l2) 10 l0 8)) 8 dX10_place_41 rfl fl_X10_27 g1 rfl rfl ?_
    refine ex_aload_n (q := 45) dX10_place_44 rfl rfl ?_
    refine ex_get (q := 48) (v := vi (gt (pt h2 47 (gt h2 10 l0 7) (gt h2 10 l0 9) l2) 10 l0 9)) 9 dX10_place_45 rfl fl_X10_52 g1 rfl rfl ?_
    refine ex_iload_n (q := 49) dX10_place_48 rfl rfl ?_
    obtain ⟨g6, hF⟩ := zg hF
    obtain ⟨g7, hF⟩ := zg hF
    refine ex_iast (q := 50) dX10_place_49 rfl kd_48 g6 g7.1 g7.2 ?_
    have hF := zl_e hF
    generalize pt (pt h2 47 (gt h2 10 l0 7) (gt h2 10 l0 9) l2) 48 (gt (pt h2 47 (gt h2 10 l0 7) (gt h2 10 l0 9) l2) 10 l0 8) (gt (pt h2 47 (gt h2 10 l0 7) (gt h2 10 l0 9) l2) 10 l0 9) l2 = k8 at hF ⊢
    refine ex_aload_n (q := 51) dX10_place_50 rfl rfl ?_
    refine ex_dup (q := 52) dX10_place_51 rfl (fun _ z => by cases z) ?_
    refine ex_get (q := 55) (v := vi (gt k8 10 l0 9)) 9 dX10_place_52 rfl fl_X10_52 g1 rfl rfl ?_
    refine ex_iconst (q := 56) dX10_place_55 rfl ⟨by decide, by decide⟩ ?_
    refine ex_iadd (q := 57) dX10_place_56 rfl ?_
    refine ex_put (q := 60) 9 dX10_place_57 rfl fl_X10_52 (by decide) g1 rfl rfl (fun z => by cases z) ?_
    refine ex_goto (q := 87) dX10_place_60 (by decide) ?_
    obtain ⟨rfl, rfl⟩ := zr hF
    exact ex_ret none rfl ⟨dX10_place_87, rfl⟩ ⟨rfl, rfl⟩
def F_X10_place_0 (l0 l1 l2 : Int) (h : zH) : zO := if l1 = 11 then (F_X10_place_18 l0 l2 h) else (if l1 = 12 then (F_X10_place_18 l0 l2 h) else (if l1 ≠ 13 then (if l1 = 14 then (F_X10_place_81 l0 l1 l2 h) else (if l1 = 15 then (F_X10_place_81 l0 l1 l2 h) else (if l1 ≠ 16 then (some (0, h)) else (F_X10_place_81 l0 l1 l2 h)))) else (F_X10_place_18 l0 l2 h)))
set_option maxHeartbeats 1000000 in
theorem x_X10_place_0 {l0 l1 l2 : Int} {h : zH} {r : Int} {h' : zH} (hF : F_X10_place_0 l0 l1 l2 h = some (r, h')) : Ex 2 M_X10_place 0 [some (vr 10 l0), some (vi l1), some (vi l2)] [] h (fun r1 h1 => r1 = none ∧ h1 = h') := by
  unfold F_X10_place_0 at hF
  refine ex_iload_n (q := 1) dX10_place_0 rfl rfl ?_
  refine ex_bipush (q := 3) dX10_place_1 rfl (by decide) ⟨by decide, by decide⟩ ?_
  refine ex_icmp_eq (q := 6) (tgt := 18) dX10_place_3 rfl (by decide) (fun c1 => ?_) (fun c1 => ?_)
  · have hF := ip c1 hF
    exact ex_forget (lo' := [some (vr 10 l0), none, some (vi l2)]) ⟨Or.inr rfl, Or.inl rfl, Or.inr rfl, trivial⟩ (x_X10_place_18 hF)
  · have hF := im c1 hF
    refine ex_iload_n (q := 7) dX10_place_6 rfl rfl ?_
    refine ex_bipush (q := 9) dX10_place_7 rfl (by decide) ⟨by decide, by decide⟩ ?_
    refine ex_icmp_eq (q := 12) (tgt := 18) dX10_place_9 rfl (by decide) (fun c2 => ?_) (fun c2 => ?_)
    · have hF := ip c2 hF
      exact ex_forget (lo' := [some (vr 10 l0), none, some (vi l2)]) ⟨Or.inr rfl, Or.inl rfl, Or.inr rfl, trivial⟩ (x_X10_place_18 hF)
    · have hF := im c2 hF
      refine ex_iload_n (q := 13) dX10_place_12 rfl rfl ?_
      refine ex_bipush (q := 15) dX10_place_13 rfl (by decide) ⟨by decide, by decide⟩ ?_
      refine ex_icmp_ne (q := 18) (tgt := 63) dX10_place_15 rfl (by decide) (fun c3 => ?_) (fun c3 => ?_)
      · have hF := ip c3 hF
        refine ex_iload_n (q := 64) dX10_place_63 rfl rfl ?_
        refine ex_bipush (q := 66) dX10_place_64 rfl (by decide) ⟨by decide, by decide⟩ ?_
        refine ex_icmp_eq (q := 69) (tgt := 81) dX10_place_66 rfl (by decide) (fun c4 => ?_) (fun c4 => ?_)
        · have hF := ip c4 hF
          exact ex_forget (lo' := [some (vr 10 l0), some (vi l1), some (vi l2)]) ⟨Or.inr rfl, Or.inr rfl, Or.inr rfl, trivial⟩ (x_X10_place_81 hF)
        · have hF := im c4 hF
          refine ex_iload_n (q := 70) dX10_place_69 rfl rfl ?_
          refine ex_bipush (q := 72) dX10_place_70 rfl (by decide) ⟨by decide, by decide⟩ ?_
          refine ex_icmp_eq (q := 75) (tgt := 81) dX10_place_72 rfl (by decide) (fun c5 => ?_) (fun c5 => ?_)
          · have hF := ip c5 hF
            exact ex_forget (lo' := [some (vr 10 l0), some (vi l1), some (vi l2)]) ⟨Or.inr rfl, Or.inr rfl, Or.inr rfl, trivial⟩ (x_X10_place_81 hF)
          · have hF := im c5 hF
            refine ex_iload_n (q := 76) dX10_place_75 rfl rfl ?_
            refine ex_bipush (q := 78) dX10_place_76 rfl (by decide) ⟨by decide, by decide⟩ ?_
            refine ex_icmp_ne (q := 81) (tgt := 87) dX10_place_78 rfl (by decide) (fun c6 => ?_) (fun c6 => ?_)
            · have hF := ip c6 hF
              obtain ⟨rfl, rfl⟩ := zr hF
              exact ex_ret none rfl ⟨dX10_place_87, rfl⟩ ⟨rfl, rfl⟩
            · have hF := im c6 hF
              exact ex_forget (lo' := [some (vr 10 l0), some (vi l1), some (vi l2)]) ⟨Or.inr rfl, Or.inr rfl, Or.inr rfl, trivial⟩ (x_X10_place_81 hF)
      · have hF := im c3 hF
        exact ex_forget (lo' := [some (vr 10 l0), none, some (vi l2)]) ⟨Or.inr rfl, Or.inl rfl, Or.inr rfl, trivial⟩ (x_X10_place_18 hF)
def F_X10_place (l0 l1 l2 : Int) (h : zH) : zO := F_X10_place_0 l0 l1 l2 h
theorem run_X10_place {l0 l1 l2 : Int} {h : zH} {r : Int} {h' : zH} (hF : F_X10_place l0 l1 l2 h = some (r, h')) : Run 2 yX10_place cX10_place 3 none [vr 10 l0, vi l1, vi l2] h none h' := run_of (M := M_X10_place) (by decide) rfl (fun z => by cases z) (Nat.le_of_ble_eq_true rfl) (x_X10_place_0 hF)
abbrev M_X10_add : zM := (RX10, (cX10_add, (4, ((some .int), false))))
def F_X10_add_0 (l0 l1 l2 l3 : Int) (h : zH) : zO := if 0 ≤ l0 then (zb (F_X11_within (gt h 10 l0 4) 40 h) (fun r2 h2 => if r2 ≠ 0 then (if 0 ≤ gt h2 10 l0 0 then (if 0 ≤ gt h2 10 l0 4 ∧ gt h2 10 l0 4 < 40 then (if 0 ≤ gt (pt h2 43 (gt h2 10 l0 0) (gt h2 10 l0 4) l1) 10 l0 1 then (if 0 ≤ gt (pt h2 43 (gt h2 10 l0 0) (gt h2 10 l0 4) l1) 10 l0 4 ∧ gt (pt h2 43 (gt h2 10 l0 0) (gt h2 10 l0 4) l1) 10 l0 4 < 40 then (zl (pt (pt h2 43 (gt h2 10 l0 0) (gt h2 10 l0 4) l1) 44 (gt (pt h2 43 (gt h2 10 l0 0) (gt h2 10 l0 4) l1) 10 l0 1) (gt (pt h2 43 (gt h2 10 l0 0) (gt h2 10 l0 4) l1) 10 l0 4) l2) (fun k8 => if 0 ≤ gt k8 10 l0 2 then (if 0 ≤ gt k8 10 l0 4 ∧ gt k8 10 l0 4 < 40 then (if 0 ≤ gt (pt k8 45 (gt k8 10 l0 2) (gt k8 10 l0 4) l3) 10 l0 3 then (if 0 ≤ gt (pt k8 45 (gt k8 10 l0 2) (gt k8 10 l0 4) l3) 10 l0 4 ∧ gt (pt k8 45 (gt k8 10 l0 2) (gt k8 10 l0 4) l3) 10 l0 4 < 40 then (zl (pt (pt k8 45 (gt k8 10 l0 2) (gt k8 10 l0 4) l3) 46 (gt (pt k8 45 (gt k8 10 l0 2) (gt k8 10 l0 4) l3) 10 l0 3) (gt (pt k8 45 (gt k8 10 l0 2) (gt k8 10 l0 4) l3) 10 l0 4) (-1)) (fun k13 => if gt (pt k13 10 l0 4 (wI ((gt k13 10 l0 4) + 1))) 10 l0 5 ≠ 0 then (some (gt (pt k13 10 l0 4 (wI ((gt k13 10 l0 4) + 1))) 10 l0 4, (pt k13 10 l0 4 (wI ((gt k13 10 l0 4) + 1))))) else (zb (F_X10_faultOf l0 l1 l2 l3 (pt k13 10 l0 4 (wI ((gt k13 10 l0 4) + 1)))) (fun r15 h15 => if gt (pt (pt h15 10 l0 5 r15) 10 l0 6 (wI ((gt (pt h15 10 l0 5 r15) 10 l0 4) - 1))) 10 l0 5 ≠ 0 then (some (gt (pt (pt h15 10 l0 5 r15) 10 l0 6 (wI ((gt (pt h15 10 l0 5 r15) 10 l0 4) - 1))) 10 l0 4, (pt (pt h15 10 l0 5 r15) 10 l0 6 (wI ((gt (pt h15 10 l0 5 r15) 10 l0 4) - 1))))) else (zb (F_X10_place l0 l1 (wI ((gt (pt (pt h15 10 l0 5 r15) 10 l0 6 (wI ((gt (pt h15 10 l0 5 r15) 10 l0 4) - 1))) 10 l0 4) - 1)) (pt (pt h15 10 l0 5 r15) 10 l0 6 (wI ((gt (pt h15 10 l0 5 r15) 10 l0 4) - 1)))) (fun r17 h17 => some (gt h17 10 l0 4, h17))))))) else none) else none) else none) else none)) else none) else none) else none) else none) else (some ((-104), h2)))) else none
set_option maxHeartbeats 1000000 in
theorem x_X10_add_0 {l0 l1 l2 l3 : Int} {h : zH} {r : Int} {h' : zH} (hF : F_X10_add_0 l0 l1 l2 l3 h = some (r, h')) : Ex 4 M_X10_add 0 [some (vr 10 l0), some (vi l1), some (vi l2), some (vi l3)] [] h (fun r1 h1 => r1 = some (vi r) ∧ h1 = h') := by
  unfold F_X10_add_0 at hF
  refine ex_aload_n (q := 1) dX10_add_0 rfl rfl ?_
  obtain ⟨g1, hF⟩ := zg hF
  refine ex_get (q := 4) (v := vi (gt h 10 l0 4)) 4 dX10_add_1 rfl fl_X10_30 g1 rfl rfl ?_
  refine ex_bipush (q := 6) dX10_add_4 rfl (by decide) ⟨by decide, by decide⟩ ?_
  obtain ⟨r2, h2, e2, hF⟩ := zb_some hF
  refine ex_callS (d' := 0) (q := 9) (as := [vi (gt h 10 l0 4), vi 40]) (st1 := [vi r2]) (r := (some (vi r2))) (h2 := h2) dX10_add_6 rfl (run_X11_within e2) mc_X11_within ms_X11_within ml_X10_34 (by decide) rfl rfl (Nat.le_of_ble_eq_true rfl) rfl ?_
  refine ex_if_ne (q := 12) (tgt := 15) dX10_add_9 rfl (by decide) (fun c3 => ?_) (fun c3 => ?_)
  · have hF := ip c3 hF
    refine ex_aload_n (q := 16) dX10_add_15 rfl rfl ?_
    refine ex_get (q := 19) (v := vr 43 (gt h2 10 l0 0)) 0 dX10_add_16 rfl fl_X10_9 g1 rfl rfl ?_
    refine ex_aload_n (q := 20) dX10_add_19 rfl rfl ?_
    refine ex_get (q := 23) (v := vi (gt h2 10 l0 4)) 4 dX10_add_20 rfl fl_X10_30 g1 rfl rfl ?_
    refine ex_iload_n (q := 24) dX10_add_23 rfl rfl ?_
    obtain ⟨g4, hF⟩ := zg hF
    obtain ⟨g5, hF⟩ := zg hF
    refine ex_iast (q := 25) dX10_add_24 rfl kd_43 g4 g5.1 g5.2 ?_
    refine ex_aload_n (q := 26) dX10_add_25 rfl rfl ?_
    refine ex_get (q := 29) (v := vr 44 (gt (pt h2 43 (gt h2 10 l0 0) (gt h2 10 l0 4) l1) 10 l0 1)) 1 dX10_add_26 rfl fl_X10_15 g1 rfl rfl ?_
    refine ex_aload_n (q := 30) dX10_add_29 rfl rfl ?_
    refine ex_get (q := 33) (v := vi (gt (pt h2 43 (gt h2 10 l0 0) (gt h2 10 l0 4) l1) 10 l0 4)) 4 dX10_add_30 rfl fl_X10_30 g1 rfl rfl ?_
    refine ex_iload_n (q := 34) dX10_add_33 rfl rfl ?_
    obtain ⟨g6, hF⟩ := zg hF
    obtain ⟨g7, hF⟩ := zg hF
    refine ex_iast (q := 35) dX10_add_34 rfl kd_44 g6 g7.1 g7.2 ?_
    have hF := zl_e hF
    generalize pt (pt h2 43 (gt h2 10 l0 0) (gt h2 10 l0 4) l1) 44 (gt (pt h2 43 (gt h2 10 l0 0) (gt h2 10 l0 4) l1) 10 l0 1) (gt (pt h2 43 (gt h2 10 l0 0) (gt h2 10 l0 4) l1) 10 l0 4) l2 = k8 at hF ⊢
    refine ex_aload_n (q := 36) dX10_add_35 rfl rfl ?_
    refine ex_get (q := 39) (v := vr 45 (gt k8 10 l0 2)) 2 dX10_add_36 rfl fl_X10_18 g1 rfl rfl ?_
    refine ex_aload_n (q := 40) dX10_add_39 rfl rfl ?_
    refine ex_get (q := 43) (v := vi (gt k8 10 l0 4)) 4 dX10_add_40 rfl fl_X10_30 g1 rfl rfl ?_
    refine ex_iload_n (q := 44) dX10_add_43 rfl rfl ?_
    obtain ⟨g9, hF⟩ := zg hF
    obtain ⟨g10, hF⟩ := zg hF
    refine ex_iast (q := 45) dX10_add_44 rfl kd_45 g9 g10.1 g10.2 ?_
    refine ex_aload_n (q := 46) dX10_add_45 rfl rfl ?_
    refine ex_get (q := 49) (v := vr 46 (gt (pt k8 45 (gt k8 10 l0 2) (gt k8 10 l0 4) l3) 10 l0 3)) 3 dX10_add_46 rfl fl_X10_21 g1 rfl rfl ?_
    refine ex_aload_n (q := 50) dX10_add_49 rfl rfl ?_
    refine ex_get (q := 53) (v := vi (gt (pt k8 45 (gt k8 10 l0 2) (gt k8 10 l0 4) l3) 10 l0 4)) 4 dX10_add_50 rfl fl_X10_30 g1 rfl rfl ?_
    refine ex_iconst (q := 54) dX10_add_53 rfl ⟨by decide, by decide⟩ ?_
    obtain ⟨g11, hF⟩ := zg hF
    obtain ⟨g12, hF⟩ := zg hF
    refine ex_iast (q := 55) dX10_add_54 rfl kd_46 g11 g12.1 g12.2 ?_
    have hF := zl_e hF
    generalize pt (pt k8 45 (gt k8 10 l0 2) (gt k8 10 l0 4) l3) 46 (gt (pt k8 45 (gt k8 10 l0 2) (gt k8 10 l0 4) l3) 10 l0 3) (gt (pt k8 45 (gt k8 10 l0 2) (gt k8 10 l0 4) l3) 10 l0 4) (-1) = k13 at hF ⊢
    refine ex_aload_n (q := 56) dX10_add_55 rfl rfl ?_
    refine ex_dup (q := 57) dX10_add_56 rfl (fun _ z => by cases z) ?_
    refine ex_get (q := 60) (v := vi (gt k13 10 l0 4)) 4 dX10_add_57 rfl fl_X10_30 g1 rfl rfl ?_
    refine ex_iconst (q := 61) dX10_add_60 rfl ⟨by decide, by decide⟩ ?_
    refine ex_iadd (q := 62) dX10_add_61 rfl ?_
    refine ex_put (q := 65) 4 dX10_add_62 rfl fl_X10_30 (by decide) g1 rfl rfl (fun z => by cases z) ?_
    refine ex_aload_n (q := 66) dX10_add_65 rfl rfl ?_
    refine ex_get (q := 69) (v := vi (gt (pt k13 10 l0 4 (wI ((gt k13 10 l0 4) + 1))) 10 l0 5)) 5 dX10_add_66 rfl fl_X10_38 g1 rfl rfl ?_
    refine ex_if_ne (q := 72) (tgt := 111) dX10_add_69 rfl (by decide) (fun c14 => ?_) (fun c14 => ?_)
    · have hF := ip c14 hF
      refine ex_aload_n (q := 112) dX10_add_111 rfl rfl ?_
      refine ex_get (q := 115) (v := vi (gt (pt k13 10 l0 4 (wI ((gt k13 10 l0 4) + 1))) 10 l0 4)) 4 dX10_add_112 rfl fl_X10_30 g1 rfl rfl ?_
      obtain ⟨rfl, rfl⟩ := zr hF
      exact ex_ret (some (vi (gt (pt k13 10 l0 4 (wI ((gt k13 10 l0 4) + 1))) 10 l0 4))) rfl ⟨dX10_add_115, Or.inl rfl⟩ ⟨rfl, rfl⟩
    · have hF := im c14 hF
      refine ex_aload_n (q := 73) dX10_add_72 rfl rfl ?_
      refine ex_aload_n (q := 74) dX10_add_73 rfl rfl ?_
      refine ex_iload_n (q := 75) dX10_add_74 rfl rfl ?_
      refine ex_iload_n (q := 76) dX10_add_75 rfl rfl ?_
      refine ex_iload_n (q := 77) dX10_add_76 rfl rfl ?_
      obtain ⟨r15, h15, e15, hF⟩ := zb_some hF
      refine ex_callV (d' := 3) (q := 80) (as := [vi l1, vi l2, vi l3]) (st1 := [vi r15, vr 10 l0]) (r := (some (vi r15))) (h2 := h15) dX10_add_77 rfl (run_X10_faultOf e15) mc_X10_faultOf mv_X10_faultOf ml_X10_41 (by decide) g1 rfl rfl (Nat.le_of_ble_eq_true rfl) rfl ?_
      refine ex_put (q := 83) 5 dX10_add_80 rfl fl_X10_38 (by decide) g1 rfl rfl (fun z => by cases z) ?_
      refine ex_aload_n (q := 84) dX10_add_83 rfl rfl ?_
      refine ex_aload_n (q := 85) dX10_add_84 rfl rfl ?_
      refine ex_get (q := 88) (v := vi (gt (pt h15 10 l0 5 r15) 10 l0 4)) 4 dX10_add_85 rfl fl_X10_30 g1 rfl rfl ?_
      refine ex_iconst (q := 89) dX10_add_88 rfl ⟨by decide, by decide⟩ ?_
      refine ex_isub (q := 90) dX10_add_89 rfl ?_
      refine ex_put (q := 93) 6 dX10_add_90 rfl fl_X10_45 (by decide) g1 rfl rfl (fun z => by cases z) ?_
      refine ex_aload_n (q := 94) dX10_add_93 rfl rfl ?_
      refine ex_get (q := 97) (v := vi (gt (pt (pt h15 10 l0 5 r15) 10 l0 6 (wI ((gt (pt h15 10 l0 5 r15) 10 l0 4) - 1))) 10 l0 5)) 5 dX10_add_94 rfl fl_X10_38 g1 rfl rfl ?_
      refine ex_if_ne (q := 100) (tgt := 111) dX10_add_97 rfl (by decide) (fun c16 => ?_) (fun c16 => ?_)
      · have hF := ip c16 hF
        refine ex_aload_n (q := 112) dX10_add_111 rfl rfl ?_
        refine ex_get (q := 115) (v := vi (gt (pt (pt h15 10 l0 5 r15) 10 l0 6 (wI ((gt (pt h15 10 l0 5 r15) 10 l0 4) - 1))) 10 l0 4)) 4 dX10_add_112 rfl fl_X10_30 g1 rfl rfl ?_
        obtain ⟨rfl, rfl⟩ := zr hF
        exact ex_ret (some (vi (gt (pt (pt h15 10 l0 5 r15) 10 l0 6 (wI ((gt (pt h15 10 l0 5 r15) 10 l0 4) - 1))) 10 l0 4))) rfl ⟨dX10_add_115, Or.inl rfl⟩ ⟨rfl, rfl⟩
      · have hF := im c16 hF
        refine ex_aload_n (q := 101) dX10_add_100 rfl rfl ?_
        refine ex_iload_n (q := 102) dX10_add_101 rfl rfl ?_
        refine ex_aload_n (q := 103) dX10_add_102 rfl rfl ?_
        refine ex_get (q := 106) (v := vi (gt (pt (pt h15 10 l0 5 r15) 10 l0 6 (wI ((gt (pt h15 10 l0 5 r15) 10 l0 4) - 1))) 10 l0 4)) 4 dX10_add_103 rfl fl_X10_30 g1 rfl rfl ?_
        refine ex_iconst (q := 107) dX10_add_106 rfl ⟨by decide, by decide⟩ ?_
        refine ex_isub (q := 108) dX10_add_107 rfl ?_
        obtain ⟨r17, h17, e17, hF⟩ := zb_some hF
        refine ex_callV (d' := 2) (q := 111) (as := [vi l1, vi (wI ((gt (pt (pt h15 10 l0 5 r15) 10 l0 6 (wI ((gt (pt h15 10 l0 5 r15) 10 l0 4) - 1))) 10 l0 4) - 1))]) (st1 := []) (r := none) (h2 := h17) dX10_add_108 rfl (run_X10_place e17) mc_X10_place mv_X10_place ml_X10_48 (by decide) g1 rfl rfl (Nat.le_of_ble_eq_true rfl) rfl ?_
        refine ex_aload_n (q := 112) dX10_add_111 rfl rfl ?_
        refine ex_get (q := 115) (v := vi (gt h17 10 l0 4)) 4 dX10_add_112 rfl fl_X10_30 g1 rfl rfl ?_
        obtain ⟨rfl, rfl⟩ := zr hF
        exact ex_ret (some (vi (gt h17 10 l0 4))) rfl ⟨dX10_add_115, Or.inl rfl⟩ ⟨rfl, rfl⟩
  · have hF := im c3 hF
    refine ex_bipush (q := 14) dX10_add_12 rfl (by decide) ⟨by decide, by decide⟩ ?_
    obtain ⟨rfl, rfl⟩ := zr hF
    exact ex_ret (some (vi (-104))) rfl ⟨dX10_add_14, Or.inl rfl⟩ ⟨rfl, rfl⟩
def F_X10_add (l0 l1 l2 l3 : Int) (h : zH) : zO := F_X10_add_0 l0 l1 l2 l3 h
theorem run_X10_add {l0 l1 l2 l3 : Int} {h : zH} {r : Int} {h' : zH} (hF : F_X10_add l0 l1 l2 l3 h = some (r, h')) : Run 4 yX10_add cX10_add 4 (some .int) [vr 10 l0, vi l1, vi l2, vi l3] h (some (vi r)) h' := run_of (M := M_X10_add) (by decide) rfl (fun z => by cases z) (Nat.le_of_ble_eq_true rfl) (x_X10_add_0 hF)
abbrev M_X11_line : zM := (RX11, (cX11_line, (6, ((some .int), false))))
def F_X11_line_0 (l0 l1 l2 l3 l4 : Int) (h : zH) : zO := if 0 ≤ l0 then (zb (F_X11_findScript (gt h 11 l0 1) l1 h) (fun r2 h2 => if r2 ≠ -1 then (if 0 ≤ r2 then (zb (F_X10_add r2 l2 l3 l4 h2) (fun r4 h4 => some (r4, h4))) else none) else (some ((-101), h2)))) else none
set_option maxHeartbeats 1000000 in
theorem x_X11_line_0 {l0 l1 l2 l3 l4 : Int} {h : zH} {r : Int} {h' : zH} (hF : F_X11_line_0 l0 l1 l2 l3 l4 h = some (r, h')) : Ex 5 M_X11_line 0 [some (vr 11 l0), some (vi l1), some (vi l2), some (vi l3), some (vi l4), none] [] h (fun r1 h1 => r1 = some (vi r) ∧ h1 = h') := by
  unfold F_X11_line_0 at hF
  refine ex_aload_n (q := 1) dX11_line_0 rfl rfl ?_
  obtain ⟨g1, hF⟩ := zg hF
  refine ex_get (q := 4) (v := vr 49 (gt h 11 l0 1)) 1 dX11_line_1 rfl fl_X11_18 g1 rfl rfl ?_
  refine ex_iload_n (q := 5) dX11_line_4 rfl rfl ?_
  obtain ⟨r2, h2, e2, hF⟩ := zb_some hF
  refine ex_callS (d' := 1) (q := 8) (as := [vr 49 (gt h 11 l0 1), vi l1]) (st1 := [vr 10 r2]) (r := (some (vr 10 r2))) (h2 := h2) dX11_line_5 rfl (run_X11_findScript e2) mc_X11_findScript ms_X11_findScript ml_X11_74 (by decide) rfl rfl (Nat.le_of_ble_eq_true rfl) rfl ?_
  refine ex_astore (q := 10) (lo' := [some (vr 11 l0), some (vi l1), some (vi l2), some (vi l3), some (vi l4), some (vr 10 r2)]) dX11_line_8 rfl (by decide) rfl rfl ?_
  refine ex_aload (q := 12) dX11_line_10 rfl rfl ?_
  refine ex_ifnonnull (q := 15) (tgt := 20) dX11_line_12 rfl (by decide) (fun c3 => ?_) (fun c3 => ?_)
  · have hF := ip c3 hF
    refine ex_aload (q := 22) dX11_line_20 rfl rfl ?_
    refine ex_iload_n (q := 23) dX11_line_22 rfl rfl ?_
    refine ex_iload_n (q := 24) dX11_line_23 rfl rfl ?_
    refine ex_iload (q := 26) dX11_line_24 rfl rfl ?_
    obtain ⟨g5, hF⟩ := zg hF
    obtain ⟨r4, h4, e4, hF⟩ := zb_some hF
    refine ex_callV (d' := 4) (q := 29) (as := [vi l2, vi l3, vi l4]) (st1 := [vi r4]) (r := (some (vi r4))) (h2 := h4) dX11_line_26 rfl (run_X10_add e4) mc_X10_add mv_X10_add ml_X11_78 (by decide) g5 rfl rfl (Nat.le_of_ble_eq_true rfl) rfl ?_
    obtain ⟨rfl, rfl⟩ := zr hF
    exact ex_ret (some (vi r4)) rfl ⟨dX11_line_29, Or.inl rfl⟩ ⟨rfl, rfl⟩
  · have hF := im c3 hF
    refine ex_bipush (q := 17) dX11_line_15 rfl (by decide) ⟨by decide, by decide⟩ ?_
    refine ex_goto (q := 29) dX11_line_17 (by decide) ?_
    obtain ⟨rfl, rfl⟩ := zr hF
    exact ex_ret (some (vi (-101))) rfl ⟨dX11_line_29, Or.inl rfl⟩ ⟨rfl, rfl⟩
def F_X11_line (l0 l1 l2 l3 l4 : Int) (h : zH) : zO := F_X11_line_0 l0 l1 l2 l3 l4 h
theorem run_X11_line {l0 l1 l2 l3 l4 : Int} {h : zH} {r : Int} {h' : zH} (hF : F_X11_line l0 l1 l2 l3 l4 h = some (r, h')) : Run 5 yX11_line cX11_line 6 (some .int) [vr 11 l0, vi l1, vi l2, vi l3, vi l4] h (some (vi r)) h' := run_of (M := M_X11_line) (by decide) rfl (fun z => by cases z) (Nat.le_of_ble_eq_true rfl) (x_X11_line_0 hF)
abbrev M_X10_clear : zM := (RX10, (cX10_clear, (2, ((some .int), false))))
def F_X10_clear_0 (l0 : Int) (h : zH) : zO := if 0 ≤ l0 then (some (gt h 10 l0 4, (pt (pt (pt h 10 l0 4 0) 10 l0 5 0) 10 l0 9 0))) else none
set_option maxHeartbeats 1000000 in
theorem x_X10_clear_0 {l0 : Int} {h : zH} {r : Int} {h' : zH} (hF : F_X10_clear_0 l0 h = some (r, h')) : Ex 0 M_X10_clear 0 [some (vr 10 l0), none] [] h (fun r1 h1 => r1 = some (vi r) ∧ h1 = h') := by
  unfold F_X10_clear_0 at hF
  refine ex_aload_n (q := 1) dX10_clear_0 rfl rfl ?_
  obtain ⟨g1, hF⟩ := zg hF
  refine ex_get (q := 4) (v := vi (gt h 10 l0 4)) 4 dX10_clear_1 rfl fl_X10_30 g1 rfl rfl ?_
  refine ex_istore_n (q := 5) (lo' := [some (vr 10 l0), some (vi (gt h 10 l0 4))]) dX10_clear_4 rfl (by decide) rfl rfl ?_
  refine ex_aload_n (q := 6) dX10_clear_5 rfl rfl ?_
  refine ex_iconst (q := 7) dX10_clear_6 rfl ⟨by decide, by decide⟩ ?_
  refine ex_put (q := 10) 4 dX10_clear_7 rfl fl_X10_30 (by decide) g1 rfl rfl (fun z => by cases z) ?_
  refine ex_aload_n (q := 11) dX10_clear_10 rfl rfl ?_
  refine ex_iconst (q := 12) dX10_clear_11 rfl ⟨by decide, by decide⟩ ?_
  refine ex_put (q := 15) 5 dX10_clear_12 rfl fl_X10_38 (by decide) g1 rfl rfl (fun z => by cases z) ?_
  refine ex_aload_n (q := 16) dX10_clear_15 rfl rfl ?_
  refine ex_iconst (q := 17) dX10_clear_16 rfl ⟨by decide, by decide⟩ ?_
  refine ex_put (q := 20) 9 dX10_clear_17 rfl fl_X10_52 (by decide) g1 rfl rfl (fun z => by cases z) ?_
  refine ex_iload_n (q := 21) dX10_clear_20 rfl rfl ?_
  obtain ⟨rfl, rfl⟩ := zr hF
  exact ex_ret (some (vi (gt h 10 l0 4))) rfl ⟨dX10_clear_21, Or.inl rfl⟩ ⟨rfl, rfl⟩
def F_X10_clear (l0 : Int) (h : zH) : zO := F_X10_clear_0 l0 h
theorem run_X10_clear {l0 : Int} {h : zH} {r : Int} {h' : zH} (hF : F_X10_clear l0 h = some (r, h')) : Run 0 yX10_clear cX10_clear 2 (some .int) [vr 10 l0] h (some (vi r)) h' := run_of (M := M_X10_clear) (by decide) rfl (fun z => by cases z) (Nat.le_of_ble_eq_true rfl) (x_X10_clear_0 hF)
abbrev M_X11_wipe : zM := (RX11, (cX11_wipe, (3, ((some .int), false))))
def F_X11_wipe_0 (l0 l1 : Int) (h : zH) : zO := if 0 ≤ l0 then (zb (F_X11_findScript (gt h 11 l0 1) l1 h) (fun r2 h2 => if r2 ≠ -1 then (if 0 ≤ r2 then (zb (F_X10_clear r2 h2) (fun r4 h4 => some (r4, h4))) else none) else (some ((-101), h2)))) else none
set_option maxHeartbeats 1000000 in
theorem x_X11_wipe_0 {l0 l1 : Int} {h : zH} {r : Int} {h' : zH} (hF : F_X11_wipe_0 l0 l1 h = some (r, h')) : Ex 2 M_X11_wipe 0 [some (vr 11 l0), some (vi l1), none] [] h (fun r1 h1 => r1 = some (vi r) ∧ h1 = h') := by
  unfold F_X11_wipe_0 at hF
  refine ex_aload_n (q := 1) dX11_wipe_0 rfl rfl ?_
  obtain ⟨g1, hF⟩ := zg hF
  refine ex_get (q := 4) (v := vr 49 (gt h 11 l0 1)) 1 dX11_wipe_1 rfl fl_X11_18 g1 rfl rfl ?_
  refine ex_iload_n (q := 5) dX11_wipe_4 rfl rfl ?_
  obtain ⟨r2, h2, e2, hF⟩ := zb_some hF
  refine ex_callS (d' := 1) (q := 8) (as := [vr 49 (gt h 11 l0 1), vi l1]) (st1 := [vr 10 r2]) (r := (some (vr 10 r2))) (h2 := h2) dX11_wipe_5 rfl (run_X11_findScript e2) mc_X11_findScript ms_X11_findScript ml_X11_74 (by decide) rfl rfl (Nat.le_of_ble_eq_true rfl) rfl ?_
  refine ex_astore_n (q := 9) (lo' := [some (vr 11 l0), some (vi l1), some (vr 10 r2)]) dX11_wipe_8 rfl (by decide) rfl rfl ?_
  refine ex_aload_n (q := 10) dX11_wipe_9 rfl rfl ?_
  refine ex_ifnonnull (q := 13) (tgt := 18) dX11_wipe_10 rfl (by decide) (fun c3 => ?_) (fun c3 => ?_)
  · have hF := ip c3 hF
    refine ex_aload_n (q := 19) dX11_wipe_18 rfl rfl ?_
    obtain ⟨g5, hF⟩ := zg hF
    obtain ⟨r4, h4, e4, hF⟩ := zb_some hF
    refine ex_callV (d' := 0) (q := 22) (as := []) (st1 := [vi r4]) (r := (some (vi r4))) (h2 := h4) dX11_wipe_19 rfl (run_X10_clear e4) mc_X10_clear mv_X10_clear ml_X11_79 (by decide) g5 rfl rfl (Nat.le_of_ble_eq_true rfl) rfl ?_
    obtain ⟨rfl, rfl⟩ := zr hF
    exact ex_ret (some (vi r4)) rfl ⟨dX11_wipe_22, Or.inl rfl⟩ ⟨rfl, rfl⟩
  · have hF := im c3 hF
    refine ex_bipush (q := 15) dX11_wipe_13 rfl (by decide) ⟨by decide, by decide⟩ ?_
    refine ex_goto (q := 22) dX11_wipe_15 (by decide) ?_
    obtain ⟨rfl, rfl⟩ := zr hF
    exact ex_ret (some (vi (-101))) rfl ⟨dX11_wipe_22, Or.inl rfl⟩ ⟨rfl, rfl⟩
def F_X11_wipe (l0 l1 : Int) (h : zH) : zO := F_X11_wipe_0 l0 l1 h
theorem run_X11_wipe {l0 l1 : Int} {h : zH} {r : Int} {h' : zH} (hF : F_X11_wipe l0 l1 h = some (r, h')) : Run 2 yX11_wipe cX11_wipe 3 (some .int) [vr 11 l0, vi l1] h (some (vi r)) h' := run_of (M := M_X11_wipe) (by decide) rfl (fun z => by cases z) (Nat.le_of_ble_eq_true rfl) (x_X11_wipe_0 hF)
abbrev M_X10_faultNumber : zM := (RX10, (cX10_faultNumber, (1, ((some .int), false))))
def F_X10_faultNumber_0 (l0 : Int) (h : zH) : zO := if 0 ≤ l0 then (if gt h 10 l0 5 ≠ 0 then (some (gt h 10 l0 5, h)) else (if gt h 10 l0 9 ≤ 0 then (some (gt h 10 l0 5, h)) else (some (5, h)))) else none
set_option maxHeartbeats 1000000 in
theorem x_X10_faultNumber_0 {l0 : Int} {h : zH} {r : Int} {h' : zH} (hF : F_X10_faultNumber_0 l0 h = some (r, h')) : Ex 0 M_X10_faultNumber 0 [some (vr 10 l0)] [] h (fun r1 h1 => r1 = some (vi r) ∧ h1 = h') := by
  unfold F_X10_faultNumber_0 at hF
  refine ex_aload_n (q := 1) dX10_faultNumber_0 rfl rfl ?_
  obtain ⟨g1, hF⟩ := zg hF
  refine ex_get (q := 4) (v := vi (gt h 10 l0 5)) 5 dX10_faultNumber_1 rfl fl_X10_38 g1 rfl rfl ?_
  refine ex_if_ne (q := 7) (tgt := 18) dX10_faultNumber_4 rfl (by decide) (fun c2 => ?_) (fun c2 => ?_)
  · have hF := ip c2 hF
    refine ex_aload_n (q := 19) dX10_faultNumber_18 rfl rfl ?_
    refine ex_get (q := 22) (v := vi (gt h 10 l0 5)) 5 dX10_faultNumber_19 rfl fl_X10_38 g1 rfl rfl ?_
    obtain ⟨rfl, rfl⟩ := zr hF
    exact ex_ret (some (vi (gt h 10 l0 5))) rfl ⟨dX10_faultNumber_22, Or.inl rfl⟩ ⟨rfl, rfl⟩
  · have hF := im c2 hF
    refine ex_aload_n (q := 8) dX10_faultNumber_7 rfl rfl ?_
    refine ex_get (q := 11) (v := vi (gt h 10 l0 9)) 9 dX10_faultNumber_8 rfl fl_X10_52 g1 rfl rfl ?_
    refine ex_if_le (q := 14) (tgt := 18) dX10_faultNumber_11 rfl (by decide) (fun c3 => ?_) (fun c3 => ?_)
    · have hF := ip c3 hF
      refine ex_aload_n (q := 19) dX10_faultNumber_18 rfl rfl ?_
      refine ex_get (q := 22) (v := vi (gt h 10 l0 5)) 5 dX10_faultNumber_19 rfl fl_X10_38 g1 rfl rfl ?_
      obtain ⟨rfl, rfl⟩ := zr hF
      exact ex_ret (some (vi (gt h 10 l0 5))) rfl ⟨dX10_faultNumber_22, Or.inl rfl⟩ ⟨rfl, rfl⟩
    · have hF := im c3 hF
      refine ex_iconst (q := 15) dX10_faultNumber_14 rfl ⟨by decide, by decide⟩ ?_
      refine ex_goto (q := 22) dX10_faultNumber_15 (by decide) ?_
      obtain ⟨rfl, rfl⟩ := zr hF
      exact ex_ret (some (vi 5)) rfl ⟨dX10_faultNumber_22, Or.inl rfl⟩ ⟨rfl, rfl⟩
def F_X10_faultNumber (l0 : Int) (h : zH) : zO := F_X10_faultNumber_0 l0 h
theorem run_X10_faultNumber {l0 : Int} {h : zH} {r : Int} {h' : zH} (hF : F_X10_faultNumber l0 h = some (r, h')) : Run 0 yX10_faultNumber cX10_faultNumber 1 (some .int) [vr 10 l0] h (some (vi r)) h' := run_of (M := M_X10_faultNumber) (by decide) rfl (fun z => by cases z) (Nat.le_of_ble_eq_true rfl) (x_X10_faultNumber_0 hF)
abbrev M_X10_faultLine : zM := (RX10, (cX10_faultLine, (1, ((some .int), false))))
def F_X10_faultLine_0 (l0 : Int) (h : zH) : zO := if 0 ≤ l0 then (if gt h 10 l0 5 = 0 then (if gt h 10 l0 9 ≤ 0 then (some ((-1), h)) else (some (gt h 10 l0 4, h))) else (some (gt h 10 l0 6, h))) else none
set_option maxHeartbeats 1000000 in
theorem x_X10_faultLine_0 {l0 : Int} {h : zH} {r : Int} {h' : zH} (hF : F_X10_faultLine_0 l0 h = some (r, h')) : Ex 0 M_X10_faultLine 0 [some (vr 10 l0)] [] h (fun r1 h1 => r1 = some (vi r) ∧ h1 = h') := by
  unfold F_X10_faultLine_0 at hF
  refine ex_aload_n (q := 1) dX10_faultLine_0 rfl rfl ?_
  obtain ⟨g1, hF⟩ := zg hF
  refine ex_get (q := 4) (v := vi (gt h 10 l0 5)) 5 dX10_faultLine_1 rfl fl_X10_38 g1 rfl rfl ?_
  refine ex_if_eq (q := 7) (tgt := 12) dX10_faultLine_4 rfl (by decide) (fun c2 => ?_) (fun c2 => ?_)
  · have hF := ip c2 hF
    refine ex_aload_n (q := 13) dX10_faultLine_12 rfl rfl ?_
    refine ex_get (q := 16) (v := vi (gt h 10 l0 9)) 9 dX10_faultLine_13 rfl fl_X10_52 g1 rfl rfl ?_
    refine ex_if_le (q := 19) (tgt := 26) dX10_faultLine_16 rfl (by decide) (fun c3 => ?_) (fun c3 => ?_)
    · have hF := ip c3 hF
      refine ex_iconst (q := 27) dX10_faultLine_26 rfl ⟨by decide, by decide⟩ ?_
      obtain ⟨rfl, rfl⟩ := zr hF
      exact ex_ret (some (vi (-1))) rfl ⟨dX10_faultLine_27, Or.inl rfl⟩ ⟨rfl, rfl⟩
    · have hF := im c3 hF
      refine ex_aload_n (q := 20) dX10_faultLine_19 rfl rfl ?_
      refine ex_get (q := 23) (v := vi (gt h 10 l0 4)) 4 dX10_faultLine_20 rfl fl_X10_30 g1 rfl rfl ?_
      refine ex_goto (q := 27) dX10_faultLine_23 (by decide) ?_
      obtain ⟨rfl, rfl⟩ := zr hF
      exact ex_ret (some (vi (gt h 10 l0 4))) rfl ⟨dX10_faultLine_27, Or.inl rfl⟩ ⟨rfl, rfl⟩
  · have hF := im c2 hF
    refine ex_aload_n (q := 8) dX10_faultLine_7 rfl rfl ?_
    refine ex_get (q := 11) (v := vi (gt h 10 l0 6)) 6 dX10_faultLine_8 rfl fl_X10_45 g1 rfl rfl ?_
    obtain ⟨rfl, rfl⟩ := zr hF
    exact ex_ret (some (vi (gt h 10 l0 6))) rfl ⟨dX10_faultLine_11, Or.inl rfl⟩ ⟨rfl, rfl⟩
def F_X10_faultLine (l0 : Int) (h : zH) : zO := F_X10_faultLine_0 l0 h
theorem run_X10_faultLine {l0 : Int} {h : zH} {r : Int} {h' : zH} (hF : F_X10_faultLine l0 h = some (r, h')) : Run 0 yX10_faultLine cX10_faultLine 1 (some .int) [vr 10 l0] h (some (vi r)) h' := run_of (M := M_X10_faultLine) (by decide) rfl (fun z => by cases z) (Nat.le_of_ble_eq_true rfl) (x_X10_faultLine_0 hF)
abbrev M_X11_fault : zM := (RX11, (cX11_fault, (4, ((some .int), false))))
def F_X11_fault_0 (l0 l1 l2 : Int) (h : zH) : zO := if 0 ≤ l0 then (zb (F_X11_findScript (gt h 11 l0 1) l1 h) (fun r2 h2 => if r2 ≠ -1 then (zb (F_X11_within l2 2 h2) (fun r4 h4 => if r4 ≠ 0 then (if l2 ≠ 0 then (if 0 ≤ r2 then (zb (F_X10_faultLine r2 h4) (fun r7 h7 => some (r7, h7))) else none) else (if 0 ≤ r2 then (zb (F_X10_faultNumber r2 h4) (fun r9 h9 => some (r9, h9))) else none)) else (some ((-102), h4)))) else (some ((-101), h2)))) else none
set_option maxHeartbeats 1000000 in
theorem x_X11_fault_0 {l0 l1 l2 : Int} {h : zH} {r : Int} {h' : zH} (hF : F_X11_fault_0 l0 l1 l2 h = some (r, h')) : Ex 2 M_X11_fault 0 [some (vr 11 l0), some (vi l1), some (vi l2), none] [] h (fun r1 h1 => r1 = some (vi r) ∧ h1 = h') := by
  unfold F_X11_fault_0 at hF
  refine ex_aload_n (q := 1) dX11_fault_0 rfl rfl ?_
  obtain ⟨g1, hF⟩ := zg hF
  refine ex_get (q := 4) (v := vr 49 (gt h 11 l0 1)) 1 dX11_fault_1 rfl fl_X11_18 g1 rfl rfl ?_
  refine ex_iload_n (q := 5) dX11_fault_4 rfl rfl ?_
  obtain ⟨r2, h2, e2, hF⟩ := zb_some hF
  refine ex_callS (d' := 1) (q := 8) (as := [vr 49 (gt h 11 l0 1), vi l1]) (st1 := [vr 10 r2]) (r := (some (vr 10 r2))) (h2 := h2) dX11_fault_5 rfl (run_X11_findScript e2) mc_X11_findScript ms_X11_findScript ml_X11_74 (by decide) rfl rfl (Nat.le_of_ble_eq_true rfl) rfl ?_
  refine ex_astore_n (q := 9) (lo' := [some (vr 11 l0), some (vi l1), some (vi l2), some (vr 10 r2)]) dX11_fault_8 rfl (by decide) rfl rfl ?_
  refine ex_aload_n (q := 10) dX11_fault_9 rfl rfl ?_
  refine ex_ifnonnull (q := 13) (tgt := 16) dX11_fault_10 rfl (by decide) (fun c3 => ?_) (fun c3 => ?_)
  · have hF := ip c3 hF
    refine ex_iload_n (q := 17) dX11_fault_16 rfl rfl ?_
    refine ex_iconst (q := 18) dX11_fault_17 rfl ⟨by decide, by decide⟩ ?_
    obtain ⟨r4, h4, e4, hF⟩ := zb_some hF
    refine ex_callS (d' := 0) (q := 21) (as := [vi l2, vi 2]) (st1 := [vi r4]) (r := (some (vi r4))) (h2 := h4) dX11_fault_18 rfl (run_X11_within e4) mc_X11_within ms_X11_within ml_X11_31 (by decide) rfl rfl (Nat.le_of_ble_eq_true rfl) rfl ?_
    refine ex_if_ne (q := 24) (tgt := 27) dX11_fault_21 rfl (by decide) (fun c5 => ?_) (fun c5 => ?_)
    · have hF := ip c5 hF
      refine ex_iload_n (q := 28) dX11_fault_27 rfl rfl ?_
      refine ex_if_ne (q := 31) (tgt := 38) dX11_fault_28 rfl (by decide) (fun c6 => ?_) (fun c6 => ?_)
      · have hF := ip c6 hF
        refine ex_aload_n (q := 39) dX11_fault_38 rfl rfl ?_
        obtain ⟨g8, hF⟩ := zg hF
        obtain ⟨r7, h7, e7, hF⟩ := zb_some hF
        refine ex_callV (d' := 0) (q := 42) (as := []) (st1 := [vi r7]) (r := (some (vi r7))) (h2 := h7) dX11_fault_39 rfl (run_X10_faultLine e7) mc_X10_faultLine mv_X10_faultLine ml_X11_86 (by decide) g8 rfl rfl (Nat.le_of_ble_eq_true rfl) rfl ?_
        obtain ⟨rfl, rfl⟩ := zr hF
        exact ex_ret (some (vi r7)) rfl ⟨dX11_fault_42, Or.inl rfl⟩ ⟨rfl, rfl⟩
      · have hF := im c6 hF
        refine ex_aload_n (q := 32) dX11_fault_31 rfl rfl ?_
        obtain ⟨g10, hF⟩ := zg hF
        obtain ⟨r9, h9, e9, hF⟩ := zb_some hF
        refine ex_callV (d' := 0) (q := 35) (as := []) (st1 := [vi r9]) (r := (some (vi r9))) (h2 := h9) dX11_fault_32 rfl (run_X10_faultNumber e9) mc_X10_faultNumber mv_X10_faultNumber ml_X11_83 (by decide) g10 rfl rfl (Nat.le_of_ble_eq_true rfl) rfl ?_
        refine ex_goto (q := 42) dX11_fault_35 (by decide) ?_
        obtain ⟨rfl, rfl⟩ := zr hF
        exact ex_ret (some (vi r9)) rfl ⟨dX11_fault_42, Or.inl rfl⟩ ⟨rfl, rfl⟩
    · have hF := im c5 hF
      refine ex_bipush (q := 26) dX11_fault_24 rfl (by decide) ⟨by decide, by decide⟩ ?_
      obtain ⟨rfl, rfl⟩ := zr hF
      exact ex_ret (some (vi (-102))) rfl ⟨dX11_fault_26, Or.inl rfl⟩ ⟨rfl, rfl⟩
  · have hF := im c3 hF
    refine ex_bipush (q := 15) dX11_fault_13 rfl (by decide) ⟨by decide, by decide⟩ ?_
    obtain ⟨rfl, rfl⟩ := zr hF
    exact ex_ret (some (vi (-101))) rfl ⟨dX11_fault_15, Or.inl rfl⟩ ⟨rfl, rfl⟩
def F_X11_fault (l0 l1 l2 : Int) (h : zH) : zO := F_X11_fault_0 l0 l1 l2 h
theorem run_X11_fault {l0 l1 l2 : Int} {h : zH} {r : Int} {h' : zH} (hF : F_X11_fault l0 l1 l2 h = some (r, h')) : Run 2 yX11_fault cX11_fault 4 (some .int) [vr 11 l0, vi l1, vi l2] h (some (vi r)) h' := run_of (M := M_X11_fault) (by decide) rfl (fun z => by cases z) (Nat.le_of_ble_eq_true rfl) (x_X11_fault_0 hF)
abbrev M_X8_reset : zM := (RX8, (cX8_reset, (2, (none, false))))
def F_X8_reset_0 (l0 l1 : Int) (h : zH) : zO := if 0 ≤ l0 then (if 0 ≤ gt (pt (pt (pt (pt (pt h 8 l0 11 l1) 8 l0 3 0) 8 l0 5 0) 8 l0 7 0) 8 l0 9 0) 8 l0 10 then (zl (pt (pt (pt (pt (pt (pt h 8 l0 11 l1) 8 l0 3 0) 8 l0 5 0) 8 l0 7 0) 8 l0 9 0) 2 (gt (pt (pt (pt (pt (pt h 8 l0 11 l1) 8 l0 3 0) 8 l0 5 0) 8 l0 7 0) 8 l0 9 0) 8 l0 10) 6 0) (fun k3 => some (0, (pt (pt (pt (pt (pt k3 8 l0 12 0) 8 l0 13 (-1)) 8 l0 14 0) 8 l0 15 0) 8 l0 16 0)))) else none) else none
set_option maxHeartbeats 1000000 in
theorem x_X8_reset_0 {l0 l1 : Int} {h : zH} {r : Int} {h' : zH} (hF : F_X8_reset_0 l0 l1 h = some (r, h')) : Ex 0 M_X8_reset 0 [some (vr 8 l0), some (vi l1)] [] h (fun r1 h1 => r1 = none ∧ h1 = h') := by
  unfold F_X8_reset_0 at hF
  refine ex_aload_n (q := 1) dX8_reset_0 rfl rfl ?_
  refine ex_iload_n (q := 2) dX8_reset_1 rfl rfl ?_
  obtain ⟨g1, hF⟩ := zg hF
  refine ex_put (q := 5) 11 dX8_reset_2 rfl fl_X8_129 (by decide) g1 rfl rfl (fun z => by cases z) ?_
  refine ex_aload_n (q := 6) dX8_reset_5 rfl rfl ?_
  refine ex_iconst (q := 7) dX8_reset_6 rfl ⟨by decide, by decide⟩ ?_
  refine ex_put (q := 10) 3 dX8_reset_7 rfl fl_X8_94 (by decide) g1 rfl rfl (fun z => by cases z) ?_
  refine ex_aload_n (q := 11) dX8_reset_10 rfl rfl ?_
  refine ex_iconst (q := 12) dX8_reset_11 rfl ⟨by decide, by decide⟩ ?_
  refine ex_put (q := 15) 5 dX8_reset_12 rfl fl_X8_132 (by decide) g1 rfl rfl (fun z => by cases z) ?_
  refine ex_aload_n (q := 16) dX8_reset_15 rfl rfl ?_
  refine ex_iconst (q := 17) dX8_reset_16 rfl ⟨by decide, by decide⟩ ?_
  refine ex_put (q := 20) 7 dX8_reset_17 rfl fl_X8_135 (by decide) g1 rfl rfl (fun z => by cases z) ?_
  refine ex_aload_n (q := 21) dX8_reset_20 rfl rfl ?_
  refine ex_iconst (q := 22) dX8_reset_21 rfl ⟨by decide, by decide⟩ ?_
  refine ex_put (q := 25) 9 dX8_reset_22 rfl fl_X8_72 (by decide) g1 rfl rfl (fun z => by cases z) ?_
  refine ex_aload_n (q := 26) dX8_reset_25 rfl rfl ?_
  refine ex_get (q := 29) (v := vr 2 (gt (pt (pt (pt (pt (pt h 8 l0 11 l1) 8 l0 3 0) 8 l0 5 0) 8 l0 7 0) 8 l0 9 0) 8 l0 10)) 10 dX8_reset_26 rfl fl_X8_38 g1 rfl rfl ?_
  refine ex_iconst (q := 30) dX8_reset_29 rfl ⟨by decide, by decide⟩ ?_
  obtain ⟨g2, hF⟩ := zg hF
  refine ex_put (q := 33) 6 dX8_reset_30 rfl fl_X8_69 (by decide) g2 rfl rfl (fun z => by cases z) ?_
  have hF := zl_e hF
  generalize pt (pt (pt (pt (pt (pt h 8 l0 11 l1) 8 l0 3 0) 8 l0 5 0) 8 l0 7 0) 8 l0 9 0) 2 (gt (pt (pt (pt (pt (pt h 8 l0 11 l1) 8 l0 3 0) 8 l0 5 0) 8 l0 7 0) 8 l0 9 0) 8 l0 10) 6 0 = k3 at hF ⊢
  refine ex_aload_n (q := 34) dX8_reset_33 rfl rfl ?_
  refine ex_iconst (q := 35) dX8_reset_34 rfl ⟨by decide, by decide⟩ ?_
  refine ex_put (q := 38) 12 dX8_reset_35 rfl fl_X8_97 (by decide) g1 rfl rfl (fun z => by cases z) ?_
  refine ex_aload_n (q := 39) dX8_reset_38 rfl rfl ?_
  refine ex_iconst (q := 40) dX8_reset_39 rfl ⟨by decide, by decide⟩ ?_
  refine ex_put (q := 43) 13 dX8_reset_40 rfl fl_X8_42 (by decide) g1 rfl rfl (fun z => by cases z) ?_
  refine ex_aload_n (q := 44) dX8_reset_43 rfl rfl ?_
  refine ex_iconst (q := 45) dX8_reset_44 rfl ⟨by decide, by decide⟩ ?_
  refine ex_put (q := 48) 14 dX8_reset_45 rfl fl_X8_66 (by decide) g1 rfl rfl (fun z => by cases z) ?_
  refine ex_aload_n (q := 49) dX8_reset_48 rfl rfl ?_
  refine ex_iconst (q := 50) dX8_reset_49 rfl ⟨by decide, by decide⟩ ?_
  refine ex_put (q := 53) 15 dX8_reset_50 rfl fl_X8_75 (by decide) g1 rfl rfl (fun z => by cases z) ?_
  refine ex_aload_n (q := 54) dX8_reset_53 rfl rfl ?_
  refine ex_iconst (q := 55) dX8_reset_54 rfl ⟨by decide, by decide⟩ ?_
  refine ex_put (q := 58) 16 dX8_reset_55 rfl fl_X8_78 (by decide) g1 rfl rfl (fun z => by cases z) ?_
  obtain ⟨rfl, rfl⟩ := zr hF
  exact ex_ret none rfl ⟨dX8_reset_58, rfl⟩ ⟨rfl, rfl⟩
def F_X8_reset (l0 l1 : Int) (h : zH) : zO := F_X8_reset_0 l0 l1 h
theorem run_X8_reset {l0 l1 : Int} {h : zH} {r : Int} {h' : zH} (hF : F_X8_reset l0 l1 h = some (r, h')) : Run 0 yX8_reset cX8_reset 2 none [vr 8 l0, vi l1] h none h' := run_of (M := M_X8_reset) (by decide) rfl (fun z => by cases z) (Nat.le_of_ble_eq_true rfl) (x_X8_reset_0 hF)
abbrev M_X1_begin : zM := (RX1, (cX1_begin, (5, (none, false))))
def F_X1_begin_18b (ag18 : Int → Int → Int → zH → zO) (l0 l3 l4 : Int) (h : zH) : zO := if 8 ≤ l4 then (if 0 ≤ l0 then (if 0 ≤ gt h 1 l0 3 then (some (0, (pt h 20 (gt h 1 l0 3) 0 l3))) else none) else none) else (if 0 ≤ l0 then (if 0 ≤ gt h 1 l0 3 then (if 0 ≤ l4 ∧ l4 < 8 then (ag18 l0 l3 (wI (l4 + 1)) (pt h 20 (gt h 1 l0 3) l4 (-1))) else none) else none) else none)
set_option maxHeartbeats 1000000 in
theorem x_X1_begin_18b {ag18 : Int → Int → Int → zH → zO} (hag18 : ∀ (l0 l3 l4 : Int) (h : zH) (r : Int) (h' : zH), ag18 l0 l3 l4 h = some (r, h') → Ex 0 M_X1_begin 18 [some (vr 1 l0), none, none, some (vr 4 l3), some (vi l4)] [] h (fun r1 h1 => r1 = none ∧ h1 = h')) {l0 l3 l4 : Int} {h : zH} {r : Int} {h' : zH} (hF : F_X1_begin_18b ag18 l0 l3 l4 h = some (r, h')) : Ex 0 M_X1_begin 18 [some (vr 1 l0), none, none, some (vr 4 l3), some (vi l4)] [] h (fun r1 h1 => r1 = none ∧ h1 = h') := by
  unfold F_X1_begin_18b at hF
  refine ex_iload (q := 20) dX1_begin_18 rfl rfl ?_
  refine ex_bipush (q := 22) dX1_begin_20 rfl (by decide) ⟨by decide, by decide⟩ ?_
  refine ex_icmp_ge (q := 25) (tgt := 39) dX1_begin_22 rfl (by decide) (fun c1 => ?_) (fun c1 => ?_)
  · have hF := ip c1 hF
    refine ex_aload_n (q := 40) dX1_begin_39 rfl rfl ?_
    obtain ⟨g2, hF⟩ := zg hF
    refine ex_get (q := 43) (v := vr 20 (gt h 1 l0 3)) 3 dX1_begin_40 rfl fl_X1_11 g2 rfl rfl ?_
    refine ex_iconst (q := 44) dX1_begin_43 rfl ⟨by decide, by decide⟩ ?_
    refine ex_aload_n (q := 45) dX1_begin_44 rfl rfl ?_
    obtain ⟨g3, hF⟩ := zg hF
    refine ex_aast (q := 46) (kd := 4) dX1_begin_45 rfl kd_20 (by decide) g3 (by decide) (by decide) ?_
    obtain ⟨rfl, rfl⟩ := zr hF
    exact ex_ret none rfl ⟨dX1_begin_46, rfl⟩ ⟨rfl, rfl⟩
  · have hF := im c1 hF
    refine ex_aload_n (q := 26) dX1_begin_25 rfl rfl ?_
    obtain ⟨g4, hF⟩ := zg hF
    refine ex_get (q := 29) (v := vr 20 (gt h 1 l0 3)) 3 dX1_begin_26 rfl fl_X1_11 g4 rfl rfl ?_
    refine ex_iload (q := 31) dX1_begin_29 rfl rfl ?_
    refine ex_null (q := 32) 4 dX1_begin_31 rfl ?_
    obtain ⟨g5, hF⟩ := zg hF
    obtain ⟨g6, hF⟩ := zg hF
    refine ex_aast (q := 33) (kd := 4) dX1_begin_32 rfl kd_20 (by decide) g5 g6.1 g6.2 ?_
    refine ex_iinc (q := 36) (lo' := [some (vr 1 l0), none, none, some (vr 4 l3), some (vi (wI (l4 + 1)))]) dX1_begin_33 rfl rfl (by decide) rfl rfl ?_
    refine ex_goto (q := 18) dX1_begin_36 (by decide) ?_
    exact ex_forget (lo' := [some (vr 1 l0), none, none, some (vr 4 l3), some (vi (wI (l4 + 1)))]) ⟨Or.inr rfl, Or.inl rfl, Or.inl rfl, Or.inr rfl, Or.inr rfl, trivial⟩ (hag18 _ _ _ _ _ _ hF)
def F_X1_begin_18 : Nat → Int → Int → Int → zH → zO
  | 0, _, _, _, _ => none
  | n + 1, l0, l3, l4, h => F_X1_begin_18b (F_X1_begin_18 n) l0 l3 l4 h
theorem x_X1_begin_18 : ∀ (n : Nat) (l0 l3 l4 : Int) (h : zH) (r : Int) (h' : zH), F_X1_begin_18 n l0 l3 l4 h = some (r, h') → Ex 0 M_X1_begin 18 [some (vr 1 l0), none, none, some (vr 4 l3), some (vi l4)] [] h (fun r1 h1 => r1 = none ∧ h1 = h')
  | 0, _, _, _, _, _, _, hF => by cases hF
  | n + 1, _, _, _, _, _, _, hF => x_X1_begin_18b (x_X1_begin_18 n) hF
def F_X1_begin_0 (l0 l1 l2 l3 : Int) (h : zH) : zO := if 0 ≤ l0 then (F_X1_begin_18 zF l0 l3 0 (pt (pt (pt h 1 l0 0 l1) 1 l0 1 l2) 1 l0 2 0)) else none
set_option maxHeartbeats 1000000 in
theorem x_X1_begin_0 {l0 l1 l2 l3 : Int} {h : zH} {r : Int} {h' : zH} (hF : F_X1_begin_0 l0 l1 l2 l3 h = some (r, h')) : Ex 0 M_X1_begin 0 [some (vr 1 l0), some (vr 10 l1), some (vi l2), some (vr 4 l3), none] [] h (fun r1 h1 => r1 = none ∧ h1 = h') := by
  unfold F_X1_begin_0 at hF
  refine ex_aload_n (q := 1) dX1_begin_0 rfl rfl ?_
  refine ex_aload_n (q := 2) dX1_begin_1 rfl rfl ?_
  obtain ⟨g1, hF⟩ := zg hF
  refine ex_put (q := 5) 0 dX1_begin_2 rfl fl_X1_17 (by decide) g1 rfl rfl (fun z => by cases z) ?_
  refine ex_aload_n (q := 6) dX1_begin_5 rfl rfl ?_
  refine ex_iload_n (q := 7) dX1_begin_6 rfl rfl ?_
  refine ex_put (q := 10) 1 dX1_begin_7 rfl fl_X1_21 (by decide) g1 rfl rfl (fun z => by cases z) ?_
  refine ex_aload_n (q := 11) dX1_begin_10 rfl rfl ?_
  refine ex_iconst (q := 12) dX1_begin_11 rfl ⟨by decide, by decide⟩ ?_
  refine ex_put (q := 15) 2 dX1_begin_12 rfl fl_X1_25 (by decide) g1 rfl rfl (fun z => by cases z) ?_
  refine ex_iconst (q := 16) dX1_begin_15 rfl ⟨by decide, by decide⟩ ?_
  refine ex_istore (q := 18) (lo' := [some (vr 1 l0), some (vr 10 l1), some (vi l2), some (vr 4 l3), some (vi 0)]) dX1_begin_16 rfl (by decide) rfl rfl ?_
  exact ex_forget (lo' := [some (vr 1 l0), none, none, some (vr 4 l3), some (vi 0)]) ⟨Or.inr rfl, Or.inl rfl, Or.inl rfl, Or.inr rfl, Or.inr rfl, trivial⟩ (x_X1_begin_18 _ _ _ _ _ _ _ hF)
def F_X1_begin (l0 l1 l2 l3 : Int) (h : zH) : zO := F_X1_begin_0 l0 l1 l2 l3 h
theorem run_X1_begin {l0 l1 l2 l3 : Int} {h : zH} {r : Int} {h' : zH} (hF : F_X1_begin l0 l1 l2 l3 h = some (r, h')) : Run 0 yX1_begin cX1_begin 5 none [vr 1 l0, vr 10 l1, vi l2, vr 4 l3] h none h' := run_of (M := M_X1_begin) (by decide) rfl (fun z => by cases z) (Nat.le_of_ble_eq_true rfl) (x_X1_begin_0 hF)
abbrev M_X0_begin : zM := (RX0, (cX0_begin, (4, (none, false))))
def F_X0_begin_0 (l0 l1 l2 l3 : Int) (h : zH) : zO := if 0 ≤ l0 then (some (0, (pt (pt (pt (pt (pt (pt (pt h 0 l0 0 l1) 0 l0 1 l2) 0 l0 2 l3) 0 l0 3 0) 0 l0 4 (-1)) 0 l0 5 0) 0 l0 6 (-1)))) else none
set_option maxHeartbeats 1000000 in
theorem x_X0_begin_0 {l0 l1 l2 l3 : Int} {h : zH} {r : Int} {h' : zH} (hF : F_X0_begin_0 l0 l1 l2 l3 h = some (r, h')) : Ex 0 M_X0_begin 0 [some (vr 0 l0), some (vi l1), some (vi l2), some (vi l3)] [] h (fun r1 h1 => r1 = none ∧ h1 = h') := by
  unfold F_X0_begin_0 at hF
  refine ex_aload_n (q := 1) dX0_begin_0 rfl rfl ?_
  refine ex_iload_n (q := 2) dX0_begin_1 rfl rfl ?_
  obtain ⟨g1, hF⟩ := zg hF
  refine ex_put (q := 5) 0 dX0_begin_2 rfl fl_X0_9 (by decide) g1 rfl rfl (fun z => by cases z) ?_
  refine ex_aload_n (q := 6) dX0_begin_5 rfl rfl ?_
  refine ex_iload_n (q := 7) dX0_begin_6 rfl rfl ?_
  refine ex_put (q := 10) 1 dX0_begin_7 rfl fl_X0_15 (by decide) g1 rfl rfl (fun z => by cases z) ?_
  refine ex_aload_n (q := 11) dX0_begin_10 rfl rfl ?_
  refine ex_iload_n (q := 12) dX0_begin_11 rfl rfl ?_
  refine ex_put (q := 15) 2 dX0_begin_12 rfl fl_X0_18 (by decide) g1 rfl rfl (fun z => by cases z) ?_
  refine ex_aload_n (q := 16) dX0_begin_15 rfl rfl ?_
  refine ex_iconst (q := 17) dX0_begin_16 rfl ⟨by decide, by decide⟩ ?_
  refine ex_put (q := 20) 3 dX0_begin_17 rfl fl_X0_21 (by decide) g1 rfl rfl (fun z => by cases z) ?_
  refine ex_aload_n (q := 21) dX0_begin_20 rfl rfl ?_
  refine ex_iconst (q := 22) dX0_begin_21 rfl ⟨by decide, by decide⟩ ?_
  refine ex_put (q := 25) 4 dX0_begin_22 rfl fl_X0_24 (by decide) g1 rfl rfl (fun z => by cases z) ?_
  refine ex_aload_n (q := 26) dX0_begin_25 rfl rfl ?_
  refine ex_iconst (q := 27) dX0_begin_26 rfl ⟨by decide, by decide⟩ ?_
  refine ex_put (q := 30) 5 dX0_begin_27 rfl fl_X0_29 (by decide) g1 rfl rfl (fun z => by cases z) ?_
  refine ex_aload_n (q := 31) dX0_begin_30 rfl rfl ?_
  refine ex_iconst (q := 32) dX0_begin_31 rfl ⟨by decide, by decide⟩ ?_
  refine ex_put (q := 35) 6 dX0_begin_32 rfl fl_X0_32 (by decide) g1 rfl rfl (fun z => by cases z) ?_
  obtain ⟨rfl, rfl⟩ := zr hF
  exact ex_ret none rfl ⟨dX0_begin_35, rfl⟩ ⟨rfl, rfl⟩
def F_X0_begin (l0 l1 l2 l3 : Int) (h : zH) : zO := F_X0_begin_0 l0 l1 l2 l3 h
theorem run_X0_begin {l0 l1 l2 l3 : Int} {h : zH} {r : Int} {h' : zH} (hF : F_X0_begin l0 l1 l2 l3 h = some (r, h')) : Run 0 yX0_begin cX0_begin 4 none [vr 0 l0, vi l1, vi l2, vi l3] h none h' := run_of (M := M_X0_begin) (by decide) rfl (fun z => by cases z) (Nat.le_of_ble_eq_true rfl) (x_X0_begin_0 hF)
abbrev M_X8_push : zM := (RX8, (cX8_push, (4, (none, false))))
def F_X8_push_0 (l0 l1 l2 l3 : Int) (h : zH) : zO := if 0 ≤ l0 then (if 90 ≤ gt h 8 l0 5 then (some (0, h)) else (if 0 ≤ gt (pt h 8 l0 5 (wI ((gt h 8 l0 5) + 1))) 8 l0 4 then (if 0 ≤ gt (pt h 8 l0 5 (wI ((gt h 8 l0 5) + 1))) 8 l0 5 ∧ gt (pt h 8 l0 5 (wI ((gt h 8 l0 5) + 1))) 8 l0 5 < 91 then (if 0 ≤ gt (pt h 8 l0 5 (wI ((gt h 8 l0 5) + 1))) 40 (gt (pt h 8 l0 5 (wI ((gt h 8 l0 5) + 1))) 8 l0 4) (gt (pt h 8 l0 5 (wI ((gt h 8 l0 5) + 1))) 8 l0 5) then (zb (F_X0_begin (gt (pt h 8 l0 5 (wI ((gt h 8 l0 5) + 1))) 40 (gt (pt h 8 l0 5 (wI ((gt h 8 l0 5) + 1))) 8 l0 4) (gt (pt h 8 l0 5 (wI ((gt h 8 l0 5) + 1))) 8 l0 5)) l1 l2 l3 (pt h 8 l0 5 (wI ((gt h 8 l0 5) + 1)))) (fun r5 h5 => some (0, h5))) else none) else none) else none)) else none
set_option maxHeartbeats 1000000 in
theorem x_X8_push_0 {l0 l1 l2 l3 : Int} {h : zH} {r : Int} {h' : zH} (hF : F_X8_push_0 l0 l1 l2 l3 h = some (r, h')) : Ex 1 M_X8_push 0 [some (vr 8 l0), some (vi l1), some (vi l2), some (vi l3)] [] h (fun r1 h1 => r1 = none ∧ h1 = h') := by
  unfold F_X8_push_0 at hF
  refine ex_aload_n (q := 1) dX8_push_0 rfl rfl ?_
  obtain ⟨g1, hF⟩ := zg hF
  refine ex_get (q := 4) (v := vi (gt h 8 l0 5)) 5 dX8_push_1 rfl fl_X8_132 g1 rfl rfl ?_
  refine ex_bipush (q := 6) dX8_push_4 rfl (by decide) ⟨by decide, by decide⟩ ?_
  refine ex_icmp_ge (q := 9) (tgt := 34) dX8_push_6 rfl (by decide) (fun c2 => ?_) (fun c2 => ?_)
  · have hF := ip c2 hF
    obtain ⟨rfl, rfl⟩ := zr hF
    exact ex_ret none rfl ⟨dX8_push_34, rfl⟩ ⟨rfl, rfl⟩
  · have hF := im c2 hF
    refine ex_aload_n (q := 10) dX8_push_9 rfl rfl ?_
    refine ex_dup (q := 11) dX8_push_10 rfl (fun _ z => by cases z) ?_
    refine ex_get (q := 14) (v := vi (gt h 8 l0 5)) 5 dX8_push_11 rfl fl_X8_132 g1 rfl rfl ?_
    refine ex_iconst (q := 15) dX8_push_14 rfl ⟨by decide, by decide⟩ ?_
    refine ex_iadd (q := 16) dX8_push_15 rfl ?_
    refine ex_put (q := 19) 5 dX8_push_16 rfl fl_X8_132 (by decide) g1 rfl rfl (fun z => by cases z) ?_
    refine ex_aload_n (q := 20) dX8_push_19 rfl rfl ?_
    refine ex_get (q := 23) (v := vr 40 (gt (pt h 8 l0 5 (wI ((gt h 8 l0 5) + 1))) 8 l0 4)) 4 dX8_push_20 rfl fl_X8_19 g1 rfl rfl ?_
    refine ex_aload_n (q := 24) dX8_push_23 rfl rfl ?_
    refine ex_get (q := 27) (v := vi (gt (pt h 8 l0 5 (wI ((gt h 8 l0 5) + 1))) 8 l0 5)) 5 dX8_push_24 rfl fl_X8_132 g1 rfl rfl ?_
    obtain ⟨g3, hF⟩ := zg hF
    obtain ⟨g4, hF⟩ := zg hF
    refine ex_aald (q := 28) 0 dX8_push_27 rfl kd_40 (by decide) g3 g4.1 g4.2 ?_
    refine ex_iload_n (q := 29) dX8_push_28 rfl rfl ?_
    refine ex_iload_n (q := 30) dX8_push_29 rfl rfl ?_
    refine ex_iload_n (q := 31) dX8_push_30 rfl rfl ?_
    obtain ⟨g6, hF⟩ := zg hF
    obtain ⟨r5, h5, e5, hF⟩ := zb_some hF
    refine ex_callV (d' := 0) (q := 34) (as := [vi l1, vi l2, vi l3]) (st1 := []) (r := none) (h2 := h5) dX8_push_31 rfl (run_X0_begin e5) mc_X0_begin mv_X0_begin ml_X8_149 (by decide) g6 rfl rfl (Nat.le_of_ble_eq_true rfl) rfl ?_
    obtain ⟨rfl, rfl⟩ := zr hF
    exact ex_ret none rfl ⟨dX8_push_34, rfl⟩ ⟨rfl, rfl⟩
def F_X8_push (l0 l1 l2 l3 : Int) (h : zH) : zO := F_X8_push_0 l0 l1 l2 l3 h
theorem run_X8_push {l0 l1 l2 l3 : Int} {h : zH} {r : Int} {h' : zH} (hF : F_X8_push l0 l1 l2 l3 h = some (r, h')) : Run 1 yX8_push cX8_push 4 none [vr 8 l0, vi l1, vi l2, vi l3] h none h' := run_of (M := M_X8_push) (by decide) rfl (fun z => by cases z) (Nat.le_of_ble_eq_true rfl) (x_X8_push_0 hF)
abbrev M_X9_begin : zM := (RX9, (cX9_begin, (3, (none, false))))
def F_X9_begin_0 (l0 l1 l2 : Int) (h : zH) : zO := if 0 ≤ l0 then (some (0, (pt (pt (pt h 9 l0 0 l1) 9 l0 1 l2) 9 l0 2 (-1)))) else none
set_option maxHeartbeats 1000000 in
theorem x_X9_begin_0 {l0 l1 l2 : Int} {h : zH} {r : Int} {h' : zH} (hF : F_X9_begin_0 l0 l1 l2 h = some (r, h')) : Ex 0 M_X9_begin 0 [some (vr 9 l0), some (vi l1), some (vi l2)] [] h (fun r1 h1 => r1 = none ∧ h1 = h') := by
  unfold F_X9_begin_0 at hF
  refine ex_aload_n (q := 1) dX9_begin_0 rfl rfl ?_
  refine ex_iload_n (q := 2) dX9_begin_1 rfl rfl ?_
  obtain ⟨g1, hF⟩ := zg hF
  refine ex_put (q := 5) 0 dX9_begin_2 rfl fl_X9_7 (by decide) g1 rfl rfl (fun z => by cases z) ?_
  refine ex_aload_n (q := 6) dX9_begin_5 rfl rfl ?_
  refine ex_iload_n (q := 7) dX9_begin_6 rfl rfl ?_
  refine ex_put (q := 10) 1 dX9_begin_7 rfl fl_X9_13 (by decide) g1 rfl rfl (fun z => by cases z) ?_
  refine ex_aload_n (q := 11) dX9_begin_10 rfl rfl ?_
  refine ex_null (q := 12) 4 dX9_begin_11 rfl ?_
  refine ex_put (q := 15) 2 dX9_begin_12 rfl fl_X9_16 (by decide) g1 rfl rfl (fun z => by cases z) ?_
  obtain ⟨rfl, rfl⟩ := zr hF
  exact ex_ret none rfl ⟨dX9_begin_15, rfl⟩ ⟨rfl, rfl⟩
def F_X9_begin (l0 l1 l2 : Int) (h : zH) : zO := F_X9_begin_0 l0 l1 l2 h
theorem run_X9_begin {l0 l1 l2 : Int} {h : zH} {r : Int} {h' : zH} (hF : F_X9_begin l0 l1 l2 h = some (r, h')) : Run 0 yX9_begin cX9_begin 3 none [vr 9 l0, vi l1, vi l2] h none h' := run_of (M := M_X9_begin) (by decide) rfl (fun z => by cases z) (Nat.le_of_ble_eq_true rfl) (x_X9_begin_0 hF)
abbrev M_X8_openScope : zM := (RX8, (cX8_openScope, (3, (none, false))))
def F_X8_openScope_0 (l0 l1 l2 : Int) (h : zH) : zO := if 0 ≤ l0 then (if 90 ≤ gt h 8 l0 7 then (some (0, h)) else (if 0 ≤ gt (pt h 8 l0 7 (wI ((gt h 8 l0 7) + 1))) 8 l0 6 then (if 0 ≤ gt (pt h 8 l0 7 (wI ((gt h 8 l0 7) + 1))) 8 l0 7 ∧ gt (pt h 8 l0 7 (wI ((gt h 8 l0 7) + 1))) 8 l0 7 < 91 then (if 0 ≤ gt (pt h 8 l0 7 (wI ((gt h 8 l0 7) + 1))) 41 (gt (pt h 8 l0 7 (wI ((gt h 8 l0 7) + 1))) 8 l0 6) (gt (pt h 8 l0 7 (wI ((gt h 8 l0 7) + 1))) 8 l0 7) then (zb (F_X9_begin (gt (pt h 8 l0 7 (wI ((gt h 8 l0 7) + 1))) 41 (gt (pt h 8 l0 7 (wI ((gt h 8 l0 7) + 1))) 8 l0 6) (gt (pt h 8 l0 7 (wI ((gt h 8 l0 7) + 1))) 8 l0 7)) l1 l2 (pt h 8 l0 7 (wI ((gt h 8 l0 7) + 1)))) (fun r5 h5 => some (0, h5))) else none) else none) else none)) else none
set_option maxHeartbeats 1000000 in
theorem x_X8_openScope_0 {l0 l1 l2 : Int} {h : zH} {r : Int} {h' : zH} (hF : F_X8_openScope_0 l0 l1 l2 h = some (r, h')) : Ex 1 M_X8_openScope 0 [some (vr 8 l0), some (vi l1), some (vi l2)] [] h (fun r1 h1 => r1 = none ∧ h1 = h') := by
  unfold F_X8_openScope_0 at hF
  refine ex_aload_n (q := 1) dX8_openScope_0 rfl rfl ?_
  obtain ⟨g1, hF⟩ := zg hF
  refine ex_get (q := 4) (v := vi (gt h 8 l0 7)) 7 dX8_openScope_1 rfl fl_X8_135 g1 rfl rfl ?_
  refine ex_bipush (q := 6) dX8_openScope_4 rfl (by decide) ⟨by decide, by decide⟩ ?_
  refine ex_icmp_ge (q := 9) (tgt := 33) dX8_openScope_6 rfl (by decide) (fun c2 => ?_) (fun c2 => ?_)
  · have hF := ip c2 hF
    obtain ⟨rfl, rfl⟩ := zr hF
    exact ex_ret none rfl ⟨dX8_openScope_33, rfl⟩ ⟨rfl, rfl⟩
  · have hF := im c2 hF
    refine ex_aload_n (q := 10) dX8_openScope_9 rfl rfl ?_
    refine ex_dup (q := 11) dX8_openScope_10 rfl (fun _ z => by cases z) ?_
    refine ex_get (q := 14) (v := vi (gt h 8 l0 7)) 7 dX8_openScope_11 rfl fl_X8_135 g1 rfl rfl ?_
    refine ex_iconst (q := 15) dX8_openScope_14 rfl ⟨by decide, by decide⟩ ?_
    refine ex_iadd (q := 16) dX8_openScope_15 rfl ?_
    refine ex_put (q := 19) 7 dX8_openScope_16 rfl fl_X8_135 (by decide) g1 rfl rfl (fun z => by cases z) ?_
    refine ex_aload_n (q := 20) dX8_openScope_19 rfl rfl ?_
    refine ex_get (q := 23) (v := vr 41 (gt (pt h 8 l0 7 (wI ((gt h 8 l0 7) + 1))) 8 l0 6)) 6 dX8_openScope_20 rfl fl_X8_25 g1 rfl rfl ?_
    refine ex_aload_n (q := 24) dX8_openScope_23 rfl rfl ?_
    refine ex_get (q := 27) (v := vi (gt (pt h 8 l0 7 (wI ((gt h 8 l0 7) + 1))) 8 l0 7)) 7 dX8_openScope_24 rfl fl_X8_135 g1 rfl rfl ?_
    obtain ⟨g3, hF⟩ := zg hF
    obtain ⟨g4, hF⟩ := zg hF
    refine ex_aald (q := 28) 9 dX8_openScope_27 rfl kd_41 (by decide) g3 g4.1 g4.2 ?_
    refine ex_iload_n (q := 29) dX8_openScope_28 rfl rfl ?_
    refine ex_iload_n (q := 30) dX8_openScope_29 rfl rfl ?_
    obtain ⟨g6, hF⟩ := zg hF
    obtain ⟨r5, h5, e5, hF⟩ := zb_some hF
    refine ex_callV (d' := 0) (q := 33) (as := [vi l1, vi l2]) (st1 := []) (r := none) (h2 := h5) dX8_openScope_30 rfl (run_X9_begin e5) mc_X9_begin mv_X9_begin ml_X8_151 (by decide) g6 rfl rfl (Nat.le_of_ble_eq_true rfl) rfl ?_
    obtain ⟨rfl, rfl⟩ := zr hF
    exact ex_ret none rfl ⟨dX8_openScope_33, rfl⟩ ⟨rfl, rfl⟩
def F_X8_openScope (l0 l1 l2 : Int) (h : zH) : zO := F_X8_openScope_0 l0 l1 l2 h
theorem run_X8_openScope {l0 l1 l2 : Int} {h : zH} {r : Int} {h' : zH} (hF : F_X8_openScope l0 l1 l2 h = some (r, h')) : Run 1 yX8_openScope cX8_openScope 3 none [vr 8 l0, vi l1, vi l2] h none h' := run_of (M := M_X8_openScope) (by decide) rfl (fun z => by cases z) (Nat.le_of_ble_eq_true rfl) (x_X8_openScope_0 hF)
abbrev M_X8_enter : zM := (RX8, (cX8_enter, (4, (none, false))))
def F_X8_enter_0 (l0 l1 l2 l3 : Int) (h : zH) : zO := if l1 = -1 then (some (0, h)) else (if 0 ≤ l0 then (if 10 ≤ gt h 8 l0 3 then (some (0, h)) else (if 0 ≤ gt (pt h 8 l0 3 (wI ((gt h 8 l0 3) + 1))) 8 l0 2 then (if 0 ≤ gt (pt h 8 l0 3 (wI ((gt h 8 l0 3) + 1))) 8 l0 3 ∧ gt (pt h 8 l0 3 (wI ((gt h 8 l0 3) + 1))) 8 l0 3 < 11 then (if 0 ≤ gt (pt h 8 l0 3 (wI ((gt h 8 l0 3) + 1))) 39 (gt (pt h 8 l0 3 (wI ((gt h 8 l0 3) + 1))) 8 l0 2) (gt (pt h 8 l0 3 (wI ((gt h 8 l0 3) + 1))) 8 l0 3) then (zb (F_X1_begin (gt (pt h 8 l0 3 (wI ((gt h 8 l0 3) + 1))) 39 (gt (pt h 8 l0 3 (wI ((gt h 8 l0 3) + 1))) 8 l0 2) (gt (pt h 8 l0 3 (wI ((gt h 8 l0 3) + 1))) 8 l0 3)) l1 l2 l3 (pt h 8 l0 3 (wI ((gt h 8 l0 3) + 1)))) (fun r6 h6 => zb (F_X8_push l0 17 (-1) 0 h6) (fun r8 h8 => zb (F_X8_openScope l0 l2 (-1) h8) (fun r9 h9 => some (0, h9))))) else none) else none) else none)) else none)
set_option maxHeartbeats 1000000 in
theorem x_X8_enter_0 {l0 l1 l2 l3 : Int} {h : zH} {r : Int} {h' : zH} (hF : F_X8_enter_0 l0 l1 l2 l3 h = some (r, h')) : Ex 2 M_X8_enter 0 [some (vr 8 l0), some (vr 10 l1), some (vi l2), some (vr 4 l3)] [] h (fun r1 h1 => r1 = none ∧ h1 = h') := by
  unfold F_X8_enter_0 at hF
  refine ex_aload_n (q := 1) dX8_enter_0 rfl rfl ?_
  refine ex_ifnull (q := 4) (tgt := 52) dX8_enter_1 rfl (by decide) (fun c1 => ?_) (fun c1 => ?_)
  · have hF := ip c1 hF
    obtain ⟨rfl, rfl⟩ := zr hF
    exact ex_ret none rfl ⟨dX8_enter_52, rfl⟩ ⟨rfl, rfl⟩
  · have hF := im c1 hF
    refine ex_aload_n (q := 5) dX8_enter_4 rfl rfl ?_
    obtain ⟨g2, hF⟩ := zg hF
    refine ex_get (q := 8) (v := vi (gt h 8 l0 3)) 3 dX8_enter_5 rfl fl_X8_94 g2 rfl rfl ?_
    refine ex_bipush (q := 10) dX8_enter_8 rfl (by decide) ⟨by decide, by decide⟩ ?_
    refine ex_icmp_ge (q := 13) (tgt := 52) dX8_enter_10 rfl (by decide) (fun c3 => ?_) (fun c3 => ?_)
    · have hF := ip c3 hF
      obtain ⟨rfl, rfl⟩ := zr hF
      exact ex_ret none rfl ⟨dX8_enter_52, rfl⟩ ⟨rfl, rfl⟩
    · have hF := im c3 hF
      refine ex_aload_n (q := 14) dX8_enter_13 rfl rfl ?_
      refine ex_dup (q := 15) dX8_enter_14 rfl (fun _ z => by cases z) ?_
      refine ex_get (q := 18) (v := vi (gt h 8 l0 3)) 3 dX8_enter_15 rfl fl_X8_94 g2 rfl rfl ?_
      refine ex_iconst (q := 19) dX8_enter_18 rfl ⟨by decide, by decide⟩ ?_
      refine ex_iadd (q := 20) dX8_enter_19 rfl ?_
      refine ex_put (q := 23) 3 dX8_enter_20 rfl fl_X8_94 (by decide) g2 rfl rfl (fun z => by cases z) ?_
      refine ex_aload_n (q := 24) dX8_enter_23 rfl rfl ?_
      refine ex_get (q := 27) (v := vr 39 (gt (pt h 8 l0 3 (wI ((gt h 8 l0 3) + 1))) 8 l0 2)) 2 dX8_enter_24 rfl fl_X8_11 g2 rfl rfl ?_
      refine ex_aload_n (q := 28) dX8_enter_27 rfl rfl ?_
      refine ex_get (q := 31) (v := vi (gt (pt h 8 l0 3 (wI ((gt h 8 l0 3) + 1))) 8 l0 3)) 3 dX8_enter_28 rfl fl_X8_94 g2 rfl rfl ?_
      obtain ⟨g4, hF⟩ := zg hF
      obtain ⟨g5, hF⟩ := zg hF
      refine ex_aald (q := 32) 1 dX8_enter_31 rfl kd_39 (by decide) g4 g5.1 g5.2 ?_
      refine ex_aload_n (q := 33) dX8_enter_32 rfl rfl ?_
      refine ex_iload_n (q := 34) dX8_enter_33 rfl rfl ?_
      refine ex_aload_n (q := 35) dX8_enter_34 rfl rfl ?_
      obtain ⟨g7, hF⟩ := zg hF
      obtain ⟨r6, h6, e6, hF⟩ := zb_some hF
      refine ex_callV (d' := 0) (q := 38) (as := [vr 10 l1, vi l2, vr 4 l3]) (st1 := []) (r := none) (h2 := h6) dX8_enter_35 rfl (run_X1_begin e6) mc_X1_begin mv_X1_begin ml_X8_138 (by decide) g7 rfl rfl (Nat.le_of_ble_eq_true rfl) rfl ?_
      refine ex_aload_n (q := 39) dX8_enter_38 rfl rfl ?_
      refine ex_bipush (q := 41) dX8_enter_39 rfl (by decide) ⟨by decide, by decide⟩ ?_
      refine ex_iconst (q := 42) dX8_enter_41 rfl ⟨by decide, by decide⟩ ?_
      refine ex_iconst (q := 43) dX8_enter_42 rfl ⟨by decide, by decide⟩ ?_
      obtain ⟨r8, h8, e8, hF⟩ := zb_some hF
      refine ex_callV (d' := 1) (q := 46) (as := [vi 17, vi (-1), vi 0]) (st1 := []) (r := none) (h2 := h8) dX8_enter_43 rfl (run_X8_push e8) mc_X8_push mv_X8_push ml_X8_141 (by decide) g2 rfl rfl (Nat.le_of_ble_eq_true rfl) rfl ?_
      refine ex_aload_n (q := 47) dX8_enter_46 rfl rfl ?_
      refine ex_iload_n (q := 48) dX8_enter_47 rfl rfl ?_
      refine ex_iconst (q := 49) dX8_enter_48 rfl ⟨by decide, by decide⟩ ?_
      obtain ⟨r9, h9, e9, hF⟩ := zb_some hF
      refine ex_callV (d' := 1) (q := 52) (as := [vi l2, vi (-1)]) (st1 := []) (r := none) (h2 := h9) dX8_enter_49 rfl (run_X8_openScope e9) mc_X8_openScope mv_X8_openScope ml_X8_145 (by decide) g2 rfl rfl (Nat.le_of_ble_eq_true rfl) rfl ?_
      obtain ⟨rfl, rfl⟩ := zr hF
      exact ex_ret none rfl ⟨dX8_enter_52, rfl⟩ ⟨rfl, rfl⟩
def F_X8_enter (l0 l1 l2 l3 : Int) (h : zH) : zO := F_X8_enter_0 l0 l1 l2 l3 h
theorem run_X8_enter {l0 l1 l2 l3 : Int} {h : zH} {r : Int} {h' : zH} (hF : F_X8_enter l0 l1 l2 l3 h = some (r, h')) : Run 2 yX8_enter cX8_enter 4 none [vr 8 l0, vr 10 l1, vi l2, vr 4 l3] h none h' := run_of (M := M_X8_enter) (by decide) rfl (fun z => by cases z) (Nat.le_of_ble_eq_true rfl) (x_X8_enter_0 hF)
abbrev M_X4_leaveScope : zM := (RX4, (cX4_leaveScope, (1, (none, false))))
def F_X4_leaveScope_57 (l0 : Int) (h : zH) : zO := if 0 ≤ l0 then (some (0, (pt (pt (pt h 4 l0 5 (-1)) 4 l0 6 (-1)) 4 l0 7 (-1)))) else none
set_option maxHeartbeats 1000000 in
theorem x_X4_leaveScope_57 {l0 : Int} {h : zH} {r : Int} {h' : zH} (hF : F_X4_leaveScope_57 l0 h = some (r, h')) : Ex 0 M_X4_leaveScope 57 [some (vr 4 l0)] [] h (fun r1 h1 => r1 = none ∧ h1 = h') := by
  unfold F_X4_leaveScope_57 at hF
  refine ex_aload_n (q := 58) dX4_leaveScope_57 rfl rfl ?_
  refine ex_null (q := 59) 9 dX4_leaveScope_58 rfl ?_
  obtain ⟨g1, hF⟩ := zg hF
  refine ex_put (q := 62) 5 dX4_leaveScope_59 rfl fl_X4_28 (by decide) g1 rfl rfl (fun z => by cases z) ?_
  refine ex_aload_n (q := 63) dX4_leaveScope_62 rfl rfl ?_
  refine ex_null (q := 64) 4 dX4_leaveScope_63 rfl ?_
  refine ex_put (q := 67) 6 dX4_leaveScope_64 rfl fl_X4_32 (by decide) g1 rfl rfl (fun z => by cases z) ?_
  refine ex_aload_n (q := 68) dX4_leaveScope_67 rfl rfl ?_
  refine ex_null (q := 69) 4 dX4_leaveScope_68 rfl ?_
  refine ex_put (q := 72) 7 dX4_leaveScope_69 rfl fl_X4_35 (by decide) g1 rfl rfl (fun z => by cases z) ?_
  obtain ⟨rfl, rfl⟩ := zr hF
  exact ex_ret none rfl ⟨dX4_leaveScope_72, rfl⟩ ⟨rfl, rfl⟩
def F_X4_leaveScope_18 (l0 : Int) (h : zH) : zO := if 0 ≤ l0 then (if gt h 4 l0 7 = -1 then (if gt h 4 l0 5 = -1 then (F_X4_leaveScope_57 l0 h) else (if 0 ≤ gt h 4 l0 5 then (F_X4_leaveScope_57 l0 (pt h 9 (gt h 4 l0 5) 2 (gt h 4 l0 6))) else none)) else (if 0 ≤ gt h 4 l0 7 then (F_X4_leaveScope_57 l0 (pt h 4 (gt h 4 l0 7) 6 (gt h 4 l0 6))) else none)) else none
set_option maxHeartbeats 1000000 in
theorem x_X4_leaveScope_18 {l0 : Int} {h : zH} {r : Int} {h' : zH} (hF : F_X4_leaveScope_18 l0 h = some (r, h')) : Ex 0 M_X4_leaveScope 18 [some (vr 4 l0)] [] h (fun r1 h1 => r1 = none ∧ h1 = h') := by
  unfold F_X4_leaveScope_18 at hF
  refine ex_aload_n (q := 19) dX4_leaveScope_18 rfl rfl ?_
  obtain ⟨g1, hF⟩ := zg hF
  refine ex_get (q := 22) (v := vr 4 (gt h 4 l0 7)) 7 dX4_leaveScope_19 rfl fl_X4_35 g1 rfl rfl ?_
  refine ex_ifnull (q := 25) (tgt := 39) dX4_leaveScope_22 rfl (by decide) (fun c2 => ?_) (fun c2 => ?_)
  · have hF := ip c2 hF
    refine ex_aload_n (q := 40) dX4_leaveScope_39 rfl rfl ?_
    refine ex_get (q := 43) (v := vr 9 (gt h 4 l0 5)) 5 dX4_leaveScope_40 rfl fl_X4_28 g1 rfl rfl ?_
    refine ex_ifnull (q := 46) (tgt := 57) dX4_leaveScope_43 rfl (by decide) (fun c3 => ?_) (fun c3 => ?_)
    · have hF := ip c3 hF
      exact ex_forget (lo' := [some (vr 4 l0)]) ⟨Or.inr rfl, trivial⟩ (x_X4_leaveScope_57 hF)
    · have hF := im c3 hF
      refine ex_aload_n (q := 47) dX4_leaveScope_46 rfl rfl ?_
      refine ex_get (q := 50) (v := vr 9 (gt h 4 l0 5)) 5 dX4_leaveScope_47 rfl fl_X4_28 g1 rfl rfl ?_
      refine ex_aload_n (q := 51) dX4_leaveScope_50 rfl rfl ?_
      refine ex_get (q := 54) (v := vr 4 (gt h 4 l0 6)) 6 dX4_leaveScope_51 rfl fl_X4_32 g1 rfl rfl ?_
      obtain ⟨g4, hF⟩ := zg hF
      refine ex_put (q := 57) 2 dX4_leaveScope_54 rfl fl_X4_41 (by decide) g4 rfl rfl (fun z => by cases z) ?_
      exact ex_forget (lo' := [some (vr 4 l0)]) ⟨Or.inr rfl, trivial⟩ (x_X4_leaveScope_57 hF)
  · have hF := im c2 hF
    refine ex_aload_n (q := 26) dX4_leaveScope_25 rfl rfl ?_
    refine ex_get (q := 29) (v := vr 4 (gt h 4 l0 7)) 7 dX4_leaveScope_26 rfl fl_X4_35 g1 rfl rfl ?_
    refine ex_aload_n (q := 30) dX4_leaveScope_29 rfl rfl ?_
    refine ex_get (q := 33) (v := vr 4 (gt h 4 l0 6)) 6 dX4_leaveScope_30 rfl fl_X4_32 g1 rfl rfl ?_
    obtain ⟨g5, hF⟩ := zg hF
    refine ex_put (q := 36) 6 dX4_leaveScope_33 rfl fl_X4_32 (by decide) g5 rfl rfl (fun z => by cases z) ?_
    refine ex_goto (q := 57) dX4_leaveScope_36 (by decide) ?_
    exact ex_forget (lo' := [some (vr 4 l0)]) ⟨Or.inr rfl, trivial⟩ (x_X4_leaveScope_57 hF)
def F_X4_leaveScope_0 (l0 : Int) (h : zH) : zO := if 0 ≤ l0 then (if gt h 4 l0 6 = -1 then (F_X4_leaveScope_18 l0 h) else (if 0 ≤ gt h 4 l0 6 then (F_X4_leaveScope_18 l0 (pt h 4 (gt h 4 l0 6) 7 (gt h 4 l0 7))) else none)) else none
set_option maxHeartbeats 1000000 in
theorem x_X4_leaveScope_0 {l0 : Int} {h : zH} {r : Int} {h' : zH} (hF : F_X4_leaveScope_0 l0 h = some (r, h')) : Ex 0 M_X4_leaveScope 0 [some (vr 4 l0)] [] h (fun r1 h1 => r1 = none ∧ h1 = h') := by
  unfold F_X4_leaveScope_0 at hF
  refine ex_aload_n (q := 1) dX4_leaveScope_0 rfl rfl ?_
  obtain ⟨g1, hF⟩ := zg hF
  refine ex_get (q := 4) (v := vr 4 (gt h 4 l0 6)) 6 dX4_leaveScope_1 rfl fl_X4_32 g1 rfl rfl ?_
  refine ex_ifnull (q := 7) (tgt := 18) dX4_leaveScope_4 rfl (by decide) (fun c2 => ?_) (fun c2 => ?_)
  · have hF := ip c2 hF
    exact ex_forget (lo' := [some (vr 4 l0)]) ⟨Or.inr rfl, trivial⟩ (x_X4_leaveScope_18 hF)
  · have hF := im c2 hF
    refine ex_aload_n (q := 8) dX4_leaveScope_7 rfl rfl ?_
    refine ex_get (q := 11) (v := vr 4 (gt h 4 l0 6)) 6 dX4_leaveScope_8 rfl fl_X4_32 g1 rfl rfl ?_
    refine ex_aload_n (q := 12) dX4_leaveScope_11 rfl rfl ?_
    refine ex_get (q := 15) (v := vr 4 (gt h 4 l0 7)) 7 dX4_leaveScope_12 rfl fl_X4_35 g1 rfl rfl ?_
    obtain ⟨g3, hF⟩ := zg hF
    refine ex_put (q := 18) 7 dX4_leaveScope_15 rfl fl_X4_35 (by decide) g3 rfl rfl (fun z => by cases z) ?_
    exact ex_forget (lo' := [some (vr 4 l0)]) ⟨Or.inr rfl, trivial⟩ (x_X4_leaveScope_18 hF)
def F_X4_leaveScope (l0 : Int) (h : zH) : zO := F_X4_leaveScope_0 l0 h
theorem run_X4_leaveScope {l0 : Int} {h : zH} {r : Int} {h' : zH} (hF : F_X4_leaveScope l0 h = some (r, h')) : Run 0 yX4_leaveScope cX4_leaveScope 1 none [vr 4 l0] h none h' := run_of (M := M_X4_leaveScope) (by decide) rfl (fun z => by cases z) (Nat.le_of_ble_eq_true rfl) (x_X4_leaveScope_0 hF)
abbrev M_X4_close : zM := (RX4, (cX4_close, (1, (none, false))))
def F_X4_close_0 (l0 : Int) (h : zH) : zO := if 0 ≤ l0 then (zb (F_X4_leaveScope l0 (pt h 4 l0 2 0)) (fun r2 h2 => if gt h2 4 l0 3 = -1 then (some (0, h2)) else (if 0 ≤ gt h2 4 l0 3 then (some (0, (pt h2 4 (gt h2 4 l0 3) 4 (-1)))) else none))) else none
set_option maxHeartbeats 1000000 in
theorem x_X4_close_0 {l0 : Int} {h : zH} {r : Int} {h' : zH} (hF : F_X4_close_0 l0 h = some (r, h')) : Ex 1 M_X4_close 0 [some (vr 4 l0)] [] h (fun r1 h1 => r1 = none ∧ h1 = h') := by
  unfold F_X4_close_0 at hF
  refine ex_aload_n (q := 1) dX4_close_0 rfl rfl ?_
  refine ex_iconst (q := 2) dX4_close_1 rfl ⟨by decide, by decide⟩ ?_
  obtain ⟨g1, hF⟩ := zg hF
  refine ex_put (q := 5) 2 dX4_close_2 rfl fl_X4_17 (by decide) g1 rfl rfl (fun _ => by decide) ?_
  refine ex_aload_n (q := 6) dX4_close_5 rfl rfl ?_
  obtain ⟨r2, h2, e2, hF⟩ := zb_some hF
  refine ex_callV (d' := 0) (q := 9) (as := []) (st1 := []) (r := none) (h2 := h2) dX4_close_6 rfl (run_X4_leaveScope e2) mc_X4_leaveScope mv_X4_leaveScope ml_X4_38 (by decide) g1 rfl rfl (Nat.le_of_ble_eq_true rfl) rfl ?_
  refine ex_aload_n (q := 10) dX4_close_9 rfl rfl ?_
  refine ex_get (q := 13) (v := vr 4 (gt h2 4 l0 3)) 3 dX4_close_10 rfl fl_X4_21 g1 rfl rfl ?_
  refine ex_ifnull (q := 16) (tgt := 24) dX4_close_13 rfl (by decide) (fun c3 => ?_) (fun c3 => ?_)
  · have hF := ip c3 hF
    obtain ⟨rfl, rfl⟩ := zr hF
    exact ex_ret none rfl ⟨dX4_close_24, rfl⟩ ⟨rfl, rfl⟩
  · have hF := im c3 hF
    refine ex_aload_n (q := 17) dX4_close_16 rfl rfl ?_
    refine ex_get (q := 20) (v := vr 4 (gt h2 4 l0 3)) 3 dX4_close_17 rfl fl_X4_21 g1 rfl rfl ?_
    refine ex_null (q := 21) 4 dX4_close_20 rfl ?_
    obtain ⟨g4, hF⟩ := zg hF
    refine ex_put (q := 24) 4 dX4_close_21 rfl fl_X4_25 (by decide) g4 rfl rfl (fun z => by cases z) ?_
    obtain ⟨rfl, rfl⟩ := zr hF
    exact ex_ret none rfl ⟨dX4_close_24, rfl⟩ ⟨rfl, rfl⟩
def F_X4_close (l0 : Int) (h : zH) : zO := F_X4_close_0 l0 h
theorem run_X4_close {l0 : Int} {h : zH} {r : Int} {h' : zH} (hF : F_X4_close l0 h = some (r, h')) : Run 1 yX4_close cX4_close 1 none [vr 4 l0] h none h' := run_of (M := M_X4_close) (by decide) rfl (fun z => by cases z) (Nat.le_of_ble_eq_true rfl) (x_X4_close_0 hF)
abbrev M_X7_meets : zM := (RX7, (cX7_meets, (6, ((some .boolean), false))))
def F_X7_meets_51 (ag11 : Int → Int → Int → Int → Int → Int → zH → zO) (l0 l1 l2 l3 l4 l5 : Int) (h : zH) : zO := if 0 ≤ l0 then (if 0 ≤ gt h 7 l0 1 then (if 0 ≤ l5 ∧ l5 < 30 then (if gt h 37 (gt h 7 l0 1) l5 ≤ 0 then (ag11 l0 l1 l2 l3 l4 (wI (l5 + 1)) h) else (if 0 ≤ gt h 7 l0 0 then (if 0 ≤ l3 ∧ l3 < 30 then (if 0 ≤ gt (pt h 36 (gt h 7 l0 0) l3 (gt h 36 (gt h 7 l0 0) l5)) 7 l0 1 then (zl (pt (pt h 36 (gt h 7 l0 0) l3 (gt h 36 (gt h 7 l0 0) l5)) 37 (gt (pt h 36 (gt h 7 l0 0) l3 (gt h 36 (gt h 7 l0 0) l5)) 7 l0 1) l3 (gt (pt h 36 (gt h 7 l0 0) l3 (gt h 36 (gt h 7 l0 0) l5)) 37 (gt (pt h 36 (gt h 7 l0 0) l3 (gt h 36 (gt h 7 l0 0) l5)) 7 l0 1) l5)) (fun k8 => if 0 ≤ gt k8 7 l0 2 then (ag11 l0 l1 l2 (wI (l3 + 1)) l4 (wI (l5 + 1)) (pt k8 38 (gt k8 7 l0 2) l3 (gt k8 38 (gt k8 7 l0 2) l5))) else none)) else none) else none) else none)) else none) else none) else none
set_option maxHeartbeats 1000000 in
theorem x_X7_meets_51 {ag11 : Int → Int → Int → Int → Int → Int → zH → zO} (hag11 : ∀ (l0 l1 l2 l3 l4 l5 : Int) (h : zH) (r : Int) (h' : zH), ag11 l0 l1 l2 l3 l4 l5 h = some (r, h') → Ex 0 M_X7_meets 11 [some (vr 7 l0), some (vi l1), some (vi l2), some (vi l3), some (vi l4), some (vi l5)] [] h (fun r1 h1 => r1 = some (vi r) ∧ h1 = h')) {l0 l1 l2 l3 l4 l5 : Int} {h : zH} {r : Int} {h' : zH} (hF : F_X7_meets_51 ag11 l0 l1 l2 l3 l4 l5 h = some (r, h')) : Ex 0 M_X7_meets 51 [some (vr 7 l0), some (vi l1), some (vi l2), some (vi l3), some (vi l4), some (vi l5)] [] h (fun r1 h1 => r1 = some (vi r) ∧ h1 = h') := by
  unfold F_X7_meets_51 at hF
  refine ex_aload_n (q := 52) dX7_meets_51 rfl rfl ?_
  obtain ⟨g1, hF⟩ := zg hF
  refine ex_get (q := 55) (v := vr 37 (gt h 7 l0 1)) 1 dX7_meets_52 rfl fl_X7_15 g1 rfl rfl ?_
  refine ex_iload (q := 57) dX7_meets_55 rfl rfl ?_
  obtain ⟨g2, hF⟩ := zg hF
  obtain ⟨g3, hF⟩ := zg hF
  refine ex_iald (q := 58) dX7_meets_57 rfl kd_37 g2 g3.1 g3.2 ?_
  refine ex_if_le (q := 61) (tgt := 103) dX7_meets_58 rfl (by decide) (fun c4 => ?_) (fun c4 => ?_)
  · have hF := ip c4 hF
    refine ex_iinc (q := 106) (lo' := [some (vr 7 l0), some (vi l1), some (vi l2), some (vi l3), some (vi l4), some (vi (wI (l5 + 1)))]) dX7_meets_103 rfl rfl (by decide) rfl rfl ?_
    refine ex_goto (q := 11) dX7_meets_106 (by decide) ?_
    exact ex_forget (lo' := [some (vr 7 l0), some (vi l1), some (vi l2), some (vi l3), some (vi l4), some (vi (wI (l5 + 1)))]) ⟨Or.inr rfl, Or.inr rfl, Or.inr rfl, Or.inr rfl, Or.inr rfl, Or.inr rfl, trivial⟩ (hag11 _ _ _ _ _ _ _ _ _ hF)
  · have hF := im c4 hF
    refine ex_aload_n (q := 62) dX7_meets_61 rfl rfl ?_
    refine ex_get (q := 65) (v := vr 36 (gt h 7 l0 0)) 0 dX7_meets_62 rfl fl_X7_9 g1 rfl rfl ?_
    refine ex_iload_n (q := 66) dX7_meets_65 rfl rfl ?_
    refine ex_aload_n (q := 67) dX7_meets_66 rfl rfl ?_
    refine ex_get (q := 70) (v := vr 36 (gt h 7 l0 0)) 0 dX7_meets_67 rfl fl_X7_9 g1 rfl rfl ?_
    refine ex_iload (q := 72) dX7_meets_70 rfl rfl ?_
    obtain ⟨g5, hF⟩ := zg hF
    refine ex_iald (q := 73) dX7_meets_72 rfl kd_36 g5 g3.1 g3.2 ?_
    obtain ⟨g6, hF⟩ := zg hF
    refine ex_iast (q := 74) dX7_meets_73 rfl kd_36 g5 g6.1 g6.2 ?_
    refine ex_aload_n (q := 75) dX7_meets_74 rfl rfl ?_
    refine ex_get (q := 78) (v := vr 37 (gt (pt h 36 (gt h 7 l0 0) l3 (gt h 36 (gt h 7 l0 0) l5)) 7 l0 1)) 1 dX7_meets_75 rfl fl_X7_15 g1 rfl rfl ?_
    refine ex_iload_n (q := 79) dX7_meets_78 rfl rfl ?_
    refine ex_aload_n (q := 80) dX7_meets_79 rfl rfl ?_
    refine ex_get (q := 83) (v := vr 37 (gt (pt h 36 (gt h 7 l0 0) l3 (gt h 36 (gt h 7 l0 0) l5)) 7 l0 1)) 1 dX7_meets_80 rfl fl_X7_15 g1 rfl rfl ?_
    refine ex_iload (q := 85) dX7_meets_83 rfl rfl ?_
    obtain ⟨g7, hF⟩ := zg hF
    refine ex_iald (q := 86) dX7_meets_85 rfl kd_37 g7 g3.1 g3.2 ?_
    refine ex_iast (q := 87) dX7_meets_86 rfl kd_37 g7 g6.1 g6.2 ?_
    have hF := zl_e hF
    generalize pt (pt h 36 (gt h 7 l0 0) l3 (gt h 36 (gt h 7 l0 0) l5)) 37 (gt (pt h 36 (gt h 7 l0 0) l3 (gt h 36 (gt h 7 l0 0) l5)) 7 l0 1) l3 (gt (pt h 36 (gt h 7 l0 0) l3 (gt h 36 (gt h 7 l0 0) l5)) 37 (gt (pt h 36 (gt h 7 l0 0) l3 (gt h 36 (gt h 7 l0 0) l5)) 7 l0 1) l5) = k8 at hF ⊢
    refine ex_aload_n (q := 88) dX7_meets_87 rfl rfl ?_
    refine ex_get (q := 91) (v := vr 38 (gt k8 7 l0 2)) 2 dX7_meets_88 rfl fl_X7_18 g1 rfl rfl ?_
    refine ex_iload_n (q := 92) dX7_meets_91 rfl rfl ?_
    refine ex_aload_n (q := 93) dX7_meets_92 rfl rfl ?_
    refine ex_get (q := 96) (v := vr 38 (gt k8 7 l0 2)) 2 dX7_meets_93 rfl fl_X7_18 g1 rfl rfl ?_
    refine ex_iload (q := 98) dX7_meets_96 rfl rfl ?_
    obtain ⟨g9, hF⟩ := zg hF
    refine ex_iald (q := 99) dX7_meets_98 rfl kd_38 g9 g3.1 g3.2 ?_
    refine ex_iast (q := 100) dX7_meets_99 rfl kd_38 g9 g6.1 g6.2 ?_
    refine ex_iinc (q := 103) (lo' := [some (vr 7 l0), some (vi l1), some (vi l2), some (vi (wI (l3 + 1))), some (vi l4), some (vi l5)]) dX7_meets_100 rfl rfl (by decide) rfl rfl ?_
    refine ex_iinc (q := 106) (lo' := [some (vr 7 l0), some (vi l1), some (vi l2), some (vi (wI (l3 + 1))), some (vi l4), some (vi (wI (l5 + 1)))]) dX7_meets_103 rfl rfl (by decide) rfl rfl ?_
    refine ex_goto (q := 11) dX7_meets_106 (by decide) ?_
    exact ex_forget (lo' := [some (vr 7 l0), some (vi l1), some (vi l2), some (vi (wI (l3 + 1))), some (vi l4), some (vi (wI (l5 + 1)))]) ⟨Or.inr rfl, Or.inr rfl, Or.inr rfl, Or.inr rfl, Or.inr rfl, Or.inr rfl, trivial⟩ (hag11 _ _ _ _ _ _ _ _ _ hF)
def F_X7_meets_11b (ag11 : Int → Int → Int → Int → Int → Int → zH → zO) (l0 l1 l2 l3 l4 l5 : Int) (h : zH) : zO := if l4 ≤ l5 then (if 0 ≤ l0 then (if l4 ≤ l3 then (some (0, (pt h 7 l0 3 l3))) else (some (1, (pt h 7 l0 3 l3)))) else none) else (if 0 ≤ l0 then (if 0 ≤ gt h 7 l0 0 then (if 0 ≤ l5 ∧ l5 < 30 then (if gt h 36 (gt h 7 l0 0) l5 ≠ l1 then (F_X7_meets_51 ag11 l0 l1 l2 l3 l4 l5 h) else (if 0 ≤ gt h 7 l0 2 then (if gt h 38 (gt h 7 l0 2) l5 ≠ l2 then (F_X7_meets_51 ag11 l0 l1 l2 l3 l4 l5 h) else (if 0 ≤ gt h 7 l0 1 then (F_X7_meets_51 ag11 l0 l1 l2 l3 l4 l5 (pt h 37 (gt h 7 l0 1) l5 (wI ((gt h 37 (gt h 7 l0 1) l5) - 1)))) else none)) else none)) else none) else none) else none)
set_option maxHeartbeats 1000000 in
theorem x_X7_meets_11b {ag11 : Int → Int → Int → Int → Int → Int → zH → zO} (hag11 : ∀ (l0 l1 l2 l3 l4 l5 : Int) (h : zH) (r : Int) (h' : zH), ag11 l0 l1 l2 l3 l4 l5 h = some (r, h') → Ex 0 M_X7_meets 11 [some (vr 7 l0), some (vi l1), some (vi l2), some (vi l3), some (vi l4), some (vi l5)] [] h (fun r1 h1 => r1 = some (vi r) ∧ h1 = h')) {l0 l1 l2 l3 l4 l5 : Int} {h : zH} {r : Int} {h' : zH} (hF : F_X7_meets_11b ag11 l0 l1 l2 l3 l4 l5 h = some (r, h')) : Ex 0 M_X7_meets 11 [some (vr 7 l0), some (vi l1), some (vi l2), some (vi l3), some (vi l4), some (vi l5)] [] h (fun r1 h1 => r1 = some (vi r) ∧ h1 = h') := by
  unfold F_X7_meets_11b at hF
  refine ex_iload (q := 13) dX7_meets_11 rfl rfl ?_
  refine ex_iload (q := 15) dX7_meets_13 rfl rfl ?_
  refine ex_icmp_ge (q := 18) (tgt := 109) dX7_meets_15 rfl (by decide) (fun c1 => ?_) (fun c1 => ?_)
  · have hF := ip c1 hF
    refine ex_aload_n (q := 110) dX7_meets_109 rfl rfl ?_
    refine ex_iload_n (q := 111) dX7_meets_110 rfl rfl ?_
    obtain ⟨g2, hF⟩ := zg hF
    refine ex_put (q := 114) 3 dX7_meets_111 rfl fl_X7_21 (by decide) g2 rfl rfl (fun z => by cases z) ?_
    refine ex_iload_n (q := 115) dX7_meets_114 rfl rfl ?_
    refine ex_iload (q := 117) dX7_meets_115 rfl rfl ?_
    refine ex_icmp_ge (q := 120) (tgt := 124) dX7_meets_117 rfl (by decide) (fun c3 => ?_) (fun c3 => ?_)
    · have hF := ip c3 hF
      refine ex_iconst (q := 125) dX7_meets_124 rfl ⟨by decide, by decide⟩ ?_
      obtain ⟨rfl, rfl⟩ := zr hF
      exact ex_ret (some (vi 0)) rfl ⟨dX7_meets_125, Or.inr ⟨rfl, (by decide)⟩⟩ ⟨rfl, rfl⟩
    · have hF := im c3 hF
      refine ex_iconst (q := 121) dX7_meets_120 rfl ⟨by decide, by decide⟩ ?_
      refine ex_goto (q := 125) dX7_meets_121 (by decide) ?_
      obtain ⟨rfl, rfl⟩ := zr hF
      exact ex_ret (some (vi 1)) rfl ⟨dX7_meets_125, Or.inr ⟨rfl, (by decide)⟩⟩ ⟨rfl, rfl⟩
  · have hF := im c1 hF
    refine ex_aload_n (q := 19) dX7_meets_18 rfl rfl ?_
    obtain ⟨g4, hF⟩ := zg hF
    refine ex_get (q := 22) (v := vr 36 (gt h 7 l0 0)) 0 dX7_meets_19 rfl fl_X7_9 g4 rfl rfl ?_
    refine ex_iload (q := 24) dX7_meets_22 rfl rfl ?_
    obtain ⟨g5, hF⟩ := zg hF
    obtain ⟨g6, hF⟩ := zg hF
    refine ex_iald (q := 25) dX7_meets_24 rfl kd_36 g5 g6.1 g6.2 ?_
    refine ex_iload_n (q := 26) dX7_meets_25 rfl rfl ?_
    refine ex_icmp_ne (q := 29) (tgt := 51) dX7_meets_26 rfl (by decide) (fun c7 => ?_) (fun c7 => ?_)
    · have hF := ip c7 hF
      exact ex_forget (lo' := [some (vr 7 l0), some (vi l1), some (vi l2), some (vi l3), some (vi l4), some (vi l5)]) ⟨Or.inr rfl, Or.inr rfl, Or.inr rfl, Or.inr rfl, Or.inr rfl, Or.inr rfl, trivial⟩ (x_X7_meets_51 hag11 hF)
    · have hF := im c7 hF
      refine ex_aload_n (q := 30) dX7_meets_29 rfl rfl ?_
      refine ex_get (q := 33) (v := vr 38 (gt h 7 l0 2)) 2 dX7_meets_30 rfl fl_X7_18 g4 rfl rfl ?_
      refine ex_iload (q := 35) dX7_meets_33 rfl rfl ?_
      obtain ⟨g8, hF⟩ := zg hF
      refine ex_iald (q := 36) dX7_meets_35 rfl kd_38 g8 g6.1 g6.2 ?_
      refine ex_iload_n (q := 37) dX7_meets_36 rfl rfl ?_
      refine ex_icmp_ne (q := 40) (tgt := 51) dX7_meets_37 rfl (by decide) (fun c9 => ?_) (fun c9 => ?_)
      · have hF := ip c9 hF
        exact ex_forget (lo' := [some (vr 7 l0), some (vi l1), some (vi l2), some (vi l3), some (vi l4), some (vi l5)]) ⟨Or.inr rfl, Or.inr rfl, Or.inr rfl, Or.inr rfl, Or.inr rfl, Or.inr rfl, trivial⟩ (x_X7_meets_51 hag11 hF)
      · have hF := im c9 hF
        refine ex_aload_n (q := 41) dX7_meets_40 rfl rfl ?_
        refine ex_get (q := 44) (v := vr 37 (gt h 7 l0 1)) 1 dX7_meets_41 rfl fl_X7_15 g4 rfl rfl ?_
        refine ex_iload (q := 46) dX7_meets_44 rfl rfl ?_
        refine ex_dup2 (q := 47) dX7_meets_46 rfl (fun _ z => by cases z) (fun _ z => by cases z) ?_
        obtain ⟨g10, hF⟩ := zg hF
        refine ex_iald (q := 48) dX7_meets_47 rfl kd_37 g10 g6.1 g6.2 ?_
        refine ex_iconst (q := 49) dX7_meets_48 rfl ⟨by decide, by decide⟩ ?_
        refine ex_isub (q := 50) dX7_meets_49 rfl ?_
        refine ex_iast (q := 51) dX7_meets_50 rfl kd_37 g10 g6.1 g6.2 ?_
        exact ex_forget (lo' := [some (vr 7 l0), some (vi l1), some (vi l2), some (vi l3), some (vi l4), some (vi l5)]) ⟨Or.inr rfl, Or.inr rfl, Or.inr rfl, Or.inr rfl, Or.inr rfl, Or.inr rfl, trivial⟩ (x_X7_meets_51 hag11 hF)
def F_X7_meets_11 : Nat → Int → Int → Int → Int → Int → Int → zH → zO
  | 0, _, _, _, _, _, _, _ => none
  | n + 1, l0, l1, l2, l3, l4, l5, h => F_X7_meets_11b (F_X7_meets_11 n) l0 l1 l2 l3 l4 l5 h
theorem x_X7_meets_11 : ∀ (n : Nat) (l0 l1 l2 l3 l4 l5 : Int) (h : zH) (r : Int) (h' : zH), F_X7_meets_11 n l0 l1 l2 l3 l4 l5 h = some (r, h') → Ex 0 M_X7_meets 11 [some (vr 7 l0), some (vi l1), some (vi l2), some (vi l3), some (vi l4), some (vi l5)] [] h (fun r1 h1 => r1 = some (vi r) ∧ h1 = h')
  | 0, _, _, _, _, _, _, _, _, _, hF => by cases hF
  | n + 1, _, _, _, _, _, _, _, _, _, hF => x_X7_meets_11b (x_X7_meets_11 n) hF
def F_X7_meets_0 (l0 l1 l2 : Int) (h : zH) : zO := if 0 ≤ l0 then (F_X7_meets_11 zF l0 l1 l2 0 (gt h 7 l0 3) 0 h) else none
set_option maxHeartbeats 1000000 in
theorem x_X7_meets_0 {l0 l1 l2 : Int} {h : zH} {r : Int} {h' : zH} (hF : F_X7_meets_0 l0 l1 l2 h = some (r, h')) : Ex 0 M_X7_meets 0 [some (vr 7 l0), some (vi l1), some (vi l2), none, none, none] [] h (fun r1 h1 => r1 = some (vi r) ∧ h1 = h') := by
  unfold F_X7_meets_0 at hF
  refine ex_iconst (q := 1) dX7_meets_0 rfl ⟨by decide, by decide⟩ ?_
  refine ex_istore_n (q := 2) (lo' := [some (vr 7 l0), some (vi l1), some (vi l2), some (vi 0), none, none]) dX7_meets_1 rfl (by decide) rfl rfl ?_
  refine ex_aload_n (q := 3) dX7_meets_2 rfl rfl ?_
  obtain ⟨g1, hF⟩ := zg hF
  refine ex_get (q := 6) (v := vi (gt h 7 l0 3)) 3 dX7_meets_3 rfl fl_X7_21 g1 rfl rfl ?_
  refine ex_istore (q := 8) (lo' := [some (vr 7 l0), some (vi l1), some (vi l2), some (vi 0), some (vi (gt h 7 l0 3)), none]) dX7_meets_6 rfl (by decide) rfl rfl ?_
  refine ex_iconst (q := 9) dX7_meets_8 rfl ⟨by decide, by decide⟩ ?_
  refine ex_istore (q := 11) (lo' := [some (vr 7 l0), some (vi l1), some (vi l2), some (vi 0), some (vi (gt h 7 l0 3)), some (vi 0)]) dX7_meets_9 rfl (by decide) rfl rfl ?_
  exact ex_forget (lo' := [some (vr 7 l0), some (vi l1), some (vi l2), some (vi 0), some (vi (gt h 7 l0 3)), some (vi 0)]) ⟨Or.inr rfl, Or.inr rfl, Or.inr rfl, Or.inr rfl, Or.inr rfl, Or.inr rfl, trivial⟩ (x_X7_meets_11 _ _ _ _ _ _ _ _ _ _ hF)
def F_X7_meets (l0 l1 l2 : Int) (h : zH) : zO := F_X7_meets_0 l0 l1 l2 h
theorem run_X7_meets {l0 l1 l2 : Int} {h : zH} {r : Int} {h' : zH} (hF : F_X7_meets l0 l1 l2 h = some (r, h')) : Run 0 yX7_meets cX7_meets 6 (some .boolean) [vr 7 l0, vi l1, vi l2] h (some (vi r)) h' := run_of (M := M_X7_meets) (by decide) rfl (fun z => by cases z) (Nat.le_of_ble_eq_true rfl) (x_X7_meets_0 hF)
abbrev M_X3_holdNoMore : zM := (RX3, (cX3_holdNoMore, (4, (none, false))))
def F_X3_holdNoMore_4b (ag4 : Int → Int → Int → Int → zH → zO) (l0 l1 l2 l3 : Int) (h : zH) : zO := if 0 ≤ l0 then (if gt h 3 l0 5 ≤ l3 then (some (0, (pt h 3 l0 5 l2))) else (if 0 ≤ gt h 3 l0 4 then (if 0 ≤ l3 ∧ l3 < 60 then (if 0 ≤ l1 then (if gt h 29 (gt h 3 l0 4) l3 = gt h 6 l1 0 then (ag4 l0 l1 l2 (wI (l3 + 1)) h) else (if 0 ≤ l2 ∧ l2 < 60 then (ag4 l0 l1 (wI (l2 + 1)) (wI (l3 + 1)) (pt h 29 (gt h 3 l0 4) l2 (gt h 29 (gt h 3 l0 4) l3))) else none)) else none) else none) else none)) else none
set_option maxHeartbeats 1000000 in
theorem x_X3_holdNoMore_4b {ag4 : Int → Int → Int → Int → zH → zO} (hag4 : ∀ (l0 l1 l2 l3 : Int) (h : zH) (r : Int) (h' : zH), ag4 l0 l1 l2 l3 h = some (r, h') → Ex 0 M_X3_holdNoMore 4 [some (vr 3 l0), some (vr 6 l1), some (vi l2), some (vi l3)] [] h (fun r1 h1 => r1 = none ∧ h1 = h')) {l0 l1 l2 l3 : Int} {h : zH} {r : Int} {h' : zH} (hF : F_X3_holdNoMore_4b ag4 l0 l1 l2 l3 h = some (r, h')) : Ex 0 M_X3_holdNoMore 4 [some (vr 3 l0), some (vr 6 l1), some (vi l2), some (vi l3)] [] h (fun r1 h1 => r1 = none ∧ h1 = h') := by
  unfold F_X3_holdNoMore_4b at hF
  refine ex_iload_n (q := 5) dX3_holdNoMore_4 rfl rfl ?_
  refine ex_aload_n (q := 6) dX3_holdNoMore_5 rfl rfl ?_
  obtain ⟨g1, hF⟩ := zg hF
  refine ex_get (q := 9) (v := vi (gt h 3 l0 5)) 5 dX3_holdNoMore_6 rfl fl_X3_50 g1 rfl rfl ?_
  refine ex_icmp_ge (q := 12) (tgt := 46) dX3_holdNoMore_9 rfl (by decide) (fun c2 => ?_) (fun c2 => ?_)
  · have hF := ip c2 hF
    refine ex_aload_n (q := 47) dX3_holdNoMore_46 rfl rfl ?_
    refine ex_iload_n (q := 48) dX3_holdNoMore_47 rfl rfl ?_
    refine ex_put (q := 51) 5 dX3_holdNoMore_48 rfl fl_X3_50 (by decide) g1 rfl rfl (fun z => by cases z) ?_
    obtain ⟨rfl, rfl⟩ := zr hF
    exact ex_ret none rfl ⟨dX3_holdNoMore_51, rfl⟩ ⟨rfl, rfl⟩
  · have hF := im c2 hF
    refine ex_aload_n (q := 13) dX3_holdNoMore_12 rfl rfl ?_
    refine ex_get (q := 16) (v := vr 29 (gt h 3 l0 4)) 4 dX3_holdNoMore_13 rfl fl_X3_21 g1 rfl rfl ?_
    refine ex_iload_n (q := 17) dX3_holdNoMore_16 rfl rfl ?_
    obtain ⟨g3, hF⟩ := zg hF
    obtain ⟨g4, hF⟩ := zg hF
    refine ex_iald (q := 18) dX3_holdNoMore_17 rfl kd_29 g3 g4.1 g4.2 ?_
    refine ex_aload_n (q := 19) dX3_holdNoMore_18 rfl rfl ?_
    obtain ⟨g5, hF⟩ := zg hF
    refine ex_get (q := 22) (v := vi (gt h 6 l1 0)) 0 dX3_holdNoMore_19 rfl fl_X3_85 g5 rfl rfl ?_
    refine ex_icmp_eq (q := 25) (tgt := 40) dX3_holdNoMore_22 rfl (by decide) (fun c6 => ?_) (fun c6 => ?_)
    · have hF := ip c6 hF
      refine ex_iinc (q := 43) (lo' := [some (vr 3 l0), some (vr 6 l1), some (vi l2), some (vi (wI (l3 + 1)))]) dX3_holdNoMore_40 rfl rfl (by decide) rfl rfl ?_
      refine ex_goto (q := 4) dX3_holdNoMore_43 (by decide) ?_
      exact ex_forget (lo' := [some (vr 3 l0), some (vr 6 l1), some (vi l2), some (vi (wI (l3 + 1)))]) ⟨Or.inr rfl, Or.inr rfl, Or.inr rfl, Or.inr rfl, trivial⟩ (hag4 _ _ _ _ _ _ _ hF)
    · have hF := im c6 hF
      refine ex_aload_n (q := 26) dX3_holdNoMore_25 rfl rfl ?_
      refine ex_get (q := 29) (v := vr 29 (gt h 3 l0 4)) 4 dX3_holdNoMore_26 rfl fl_X3_21 g1 rfl rfl ?_
      refine ex_iload_n (q := 30) dX3_holdNoMore_29 rfl rfl ?_
      refine ex_aload_n (q := 31) dX3_holdNoMore_30 rfl rfl ?_
      refine ex_get (q := 34) (v := vr 29 (gt h 3 l0 4)) 4 dX3_holdNoMore_31 rfl fl_X3_21 g1 rfl rfl ?_
      refine ex_iload_n (q := 35) dX3_holdNoMore_34 rfl rfl ?_
      refine ex_iald (q := 36) dX3_holdNoMore_35 rfl kd_29 g3 g4.1 g4.2 ?_
      obtain ⟨g7, hF⟩ := zg hF
      refine ex_iast (q := 37) dX3_holdNoMore_36 rfl kd_29 g3 g7.1 g7.2 ?_
      refine ex_iinc (q := 40) (lo' := [some (vr 3 l0), some (vr 6 l1), some (vi (wI (l2 + 1))), some (vi l3)]) dX3_holdNoMore_37 rfl rfl (by decide) rfl rfl ?_
      refine ex_iinc (q := 43) (lo' := [some (vr 3 l0), some (vr 6 l1), some (vi (wI (l2 + 1))), some (vi (wI (l3 + 1)))]) dX3_holdNoMore_40 rfl rfl (by decide) rfl rfl ?_
      refine ex_goto (q := 4) dX3_holdNoMore_43 (by decide) ?_
      exact ex_forget (lo' := [some (vr 3 l0), some (vr 6 l1), some (vi (wI (l2 + 1))), some (vi (wI (l3 + 1)))]) ⟨Or.inr rfl, Or.inr rfl, Or.inr rfl, Or.inr rfl, trivial⟩ (hag4 _ _ _ _ _ _ _ hF)
def F_X3_holdNoMore_4 : Nat → Int → Int → Int → Int → zH → zO
  | 0, _, _, _, _, _ => none
  | n + 1, l0, l1, l2, l3, h => F_X3_holdNoMore_4b (F_X3_holdNoMore_4 n) l0 l1 l2 l3 h
theorem x_X3_holdNoMore_4 : ∀ (n : Nat) (l0 l1 l2 l3 : Int) (h : zH) (r : Int) (h' : zH), F_X3_holdNoMore_4 n l0 l1 l2 l3 h = some (r, h') → Ex 0 M_X3_holdNoMore 4 [some (vr 3 l0), some (vr 6 l1), some (vi l2), some (vi l3)] [] h (fun r1 h1 => r1 = none ∧ h1 = h')
  | 0, _, _, _, _, _, _, _, hF => by cases hF
  | n + 1, _, _, _, _, _, _, _, hF => x_X3_holdNoMore_4b (x_X3_holdNoMore_4 n) hF
def F_X3_holdNoMore_0 (l0 l1 : Int) (h : zH) : zO := F_X3_holdNoMore_4 zF l0 l1 0 0 h
set_option maxHeartbeats 1000000 in
theorem x_X3_holdNoMore_0 {l0 l1 : Int} {h : zH} {r : Int} {h' : zH} (hF : F_X3_holdNoMore_0 l0 l1 h = some (r, h')) : Ex 0 M_X3_holdNoMore 0 [some (vr 3 l0), some (vr 6 l1), none, none] [] h (fun r1 h1 => r1 = none ∧ h1 = h') := by
  unfold F_X3_holdNoMore_0 at hF
  refine ex_iconst (q := 1) dX3_holdNoMore_0 rfl ⟨by decide, by decide⟩ ?_
  refine ex_istore_n (q := 2) (lo' := [some (vr 3 l0), some (vr 6 l1), some (vi 0), none]) dX3_holdNoMore_1 rfl (by decide) rfl rfl ?_
  refine ex_iconst (q := 3) dX3_holdNoMore_2 rfl ⟨by decide, by decide⟩ ?_
  refine ex_istore_n (q := 4) (lo' := [some (vr 3 l0), some (vr 6 l1), some (vi 0), some (vi 0)]) dX3_holdNoMore_3 rfl (by decide) rfl rfl ?_
  exact ex_forget (lo' := [some (vr 3 l0), some (vr 6 l1), some (vi 0), some (vi 0)]) ⟨Or.inr rfl, Or.inr rfl, Or.inr rfl, Or.inr rfl, trivial⟩ (x_X3_holdNoMore_4 _ _ _ _ _ _ _ _ hF)
def F_X3_holdNoMore (l0 l1 : Int) (h : zH) : zO := F_X3_holdNoMore_0 l0 l1 h
theorem run_X3_holdNoMore {l0 l1 : Int} {h : zH} {r : Int} {h' : zH} (hF : F_X3_holdNoMore l0 l1 h = some (r, h')) : Run 0 yX3_holdNoMore cX3_holdNoMore 4 none [vr 3 l0, vr 6 l1] h none h' := run_of (M := M_X3_holdNoMore) (by decide) rfl (fun z => by cases z) (Nat.le_of_ble_eq_true rfl) (x_X3_holdNoMore_0 hF)
abbrev M_X3_charge : zM := (RX3, (cX3_charge, (2, (none, false))))
def F_X3_charge_0 (l0 l1 : Int) (h : zH) : zO := if 0 ≤ l1 then (if gt h 6 l1 4 < 0 then (some (0, h)) else (if 8 ≤ gt h 6 l1 4 then (some (0, h)) else (if 0 ≤ l0 then (if 0 ≤ gt h 3 l0 6 then (if 0 ≤ gt h 6 l1 4 ∧ gt h 6 l1 4 < 8 then (some (0, (pt h 30 (gt h 3 l0 6) (gt h 6 l1 4) (wL ((gt h 30 (gt h 3 l0 6) (gt h 6 l1 4)) + (gt h 6 l1 2)))))) else none) else none) else none))) else none
set_option maxHeartbeats 1000000 in
theorem x_X3_charge_0 {l0 l1 : Int} {h : zH} {r : Int} {h' : zH} (hF : F_X3_charge_0 l0 l1 h = some (r, h')) : Ex 0 M_X3_charge 0 [some (vr 3 l0), some (vr 6 l1)] [] h (fun r1 h1 => r1 = none ∧ h1 = h') := by
  unfold F_X3_charge_0 at hF
  refine ex_aload_n (q := 1) dX3_charge_0 rfl rfl ?_
  obtain ⟨g1, hF⟩ := zg hF
  refine ex_get (q := 4) (v := vi (gt h 6 l1 4)) 4 dX3_charge_1 rfl fl_X3_79 g1 rfl rfl ?_
  refine ex_if_lt (q := 7) (tgt := 33) dX3_charge_4 rfl (by decide) (fun c2 => ?_) (fun c2 => ?_)
  · have hF := ip c2 hF
    obtain ⟨rfl, rfl⟩ := zr hF
    exact ex_ret none rfl ⟨dX3_charge_33, rfl⟩ ⟨rfl, rfl⟩
  · have hF := im c2 hF
    refine ex_aload_n (q := 8) dX3_charge_7 rfl rfl ?_
    refine ex_get (q := 11) (v := vi (gt h 6 l1 4)) 4 dX3_charge_8 rfl fl_X3_79 g1 rfl rfl ?_
    refine ex_bipush (q := 13) dX3_charge_11 rfl (by decide) ⟨by decide, by decide⟩ ?_
    refine ex_icmp_ge (q := 16) (tgt := 33) dX3_charge_13 rfl (by decide) (fun c3 => ?_) (fun c3 => ?_)
    · have hF := ip c3 hF
      obtain ⟨rfl, rfl⟩ := zr hF
      exact ex_ret none rfl ⟨dX3_charge_33, rfl⟩ ⟨rfl, rfl⟩
    · have hF := im c3 hF
      refine ex_aload_n (q := 17) dX3_charge_16 rfl rfl ?_
      obtain ⟨g4, hF⟩ := zg hF
      refine ex_get (q := 20) (v := vr 30 (gt h 3 l0 6)) 6 dX3_charge_17 rfl fl_X3_24 g4 rfl rfl ?_
      refine ex_aload_n (q := 21) dX3_charge_20 rfl rfl ?_
      refine ex_get (q := 24) (v := vi (gt h 6 l1 4)) 4 dX3_charge_21 rfl fl_X3_79 g1 rfl rfl ?_
      refine ex_dup2 (q := 25) dX3_charge_24 rfl (fun _ z => by cases z) (fun _ z => by cases z) ?_
      obtain ⟨g5, hF⟩ := zg hF
      obtain ⟨g6, hF⟩ := zg hF
      refine ex_lald (q := 26) dX3_charge_25 rfl kd_30 g5 g6.1 g6.2 ?_
      refine ex_aload_n (q := 27) dX3_charge_26 rfl rfl ?_
      refine ex_get (q := 30) (v := vi (gt h 6 l1 2)) 2 dX3_charge_27 rfl fl_X3_105 g1 rfl rfl ?_
      refine ex_i2l (q := 31) dX3_charge_30 rfl ?_
      refine ex_ladd (q := 32) dX3_charge_31 rfl ?_
      refine ex_last (q := 33) dX3_charge_32 rfl kd_30 g5 g6.1 g6.2 ?_
      obtain ⟨rfl, rfl⟩ := zr hF
      exact ex_ret none rfl ⟨dX3_charge_33, rfl⟩ ⟨rfl, rfl⟩
def F_X3_charge (l0 l1 : Int) (h : zH) : zO := F_X3_charge_0 l0 l1 h
theorem run_X3_charge {l0 l1 : Int} {h : zH} {r : Int} {h' : zH} (hF : F_X3_charge l0 l1 h = some (r, h')) : Run 0 yX3_charge cX3_charge 2 none [vr 3 l0, vr 6 l1] h none h' := run_of (M := M_X3_charge) (by decide) rfl (fun z => by cases z) (Nat.le_of_ble_eq_true rfl) (x_X3_charge_0 hF)
abbrev M_X3_toCleaning : zM := (RX3, (cX3_toCleaning, (2, (none, false))))
def F_X3_toCleaning_0 (l0 l1 : Int) (h : zH) : zO := if 0 ≤ l0 then (if 60 ≤ gt h 3 l0 3 then (some (0, h)) else (if 0 ≤ l1 then (if 0 ≤ gt h 3 l0 2 then (if 0 ≤ gt h 3 l0 3 ∧ gt h 3 l0 3 < 60 then (zl (pt (pt h 28 (gt h 3 l0 2) (gt h 3 l0 3) (gt h 6 l1 0)) 3 l0 3 (wI ((gt (pt h 28 (gt h 3 l0 2) (gt h 3 l0 3) (gt h 6 l1 0)) 3 l0 3) + 1))) (fun k6 => some (0, k6))) else none) else none) else none)) else none
set_option maxHeartbeats 1000000 in
theorem x_X3_toCleaning_0 {l0 l1 : Int} {h : zH} {r : Int} {h' : zH} (hF : F_X3_toCleaning_0 l0 l1 h = some (r, h')) : Ex 0 M_X3_toCleaning 0 [some (vr 3 l0), some (vr 6 l1)] [] h (fun r1 h1 => r1 = none ∧ h1 = h') := by
  unfold F_X3_toCleaning_0 at hF
  refine ex_aload_n (q := 1) dX3_toCleaning_0 rfl rfl ?_
  obtain ⟨g1, hF⟩ := zg hF
  refine ex_get (q := 4) (v := vi (gt h 3 l0 3)) 3 dX3_toCleaning_1 rfl fl_X3_57 g1 rfl rfl ?_
  refine ex_bipush (q := 6) dX3_toCleaning_4 rfl (by decide) ⟨by decide, by decide⟩ ?_
  refine ex_icmp_ge (q := 9) (tgt := 32) dX3_toCleaning_6 rfl (by decide) (fun c2 => ?_) (fun c2 => ?_)
  · have hF := ip c2 hF
    obtain ⟨rfl, rfl⟩ := zr hF
    exact ex_ret none rfl ⟨dX3_toCleaning_32, rfl⟩ ⟨rfl, rfl⟩
  · have hF := im c2 hF
    refine ex_aload_n (q := 10) dX3_toCleaning_9 rfl rfl ?_
    refine ex_get (q := 13) (v := vr 28 (gt h 3 l0 2)) 2 dX3_toCleaning_10 rfl fl_X3_17 g1 rfl rfl ?_
    refine ex_aload_n (q := 14) dX3_toCleaning_13 rfl rfl ?_
    refine ex_get (q := 17) (v := vi (gt h 3 l0 3)) 3 dX3_toCleaning_14 rfl fl_X3_57 g1 rfl rfl ?_
    refine ex_aload_n (q := 18) dX3_toCleaning_17 rfl rfl ?_
    obtain ⟨g3, hF⟩ := zg hF
    refine ex_get (q := 21) (v := vi (gt h 6 l1 0)) 0 dX3_toCleaning_18 rfl fl_X3_85 g3 rfl rfl ?_
    obtain ⟨g4, hF⟩ := zg hF
    obtain ⟨g5, hF⟩ := zg hF
    refine ex_iast (q := 22) dX3_toCleaning_21 rfl kd_28 g4 g5.1 g5.2 ?_
    refine ex_aload_n (q := 23) dX3_toCleaning_22 rfl rfl ?_
    refine ex_dup (q := 24) dX3_toCleaning_23 rfl (fun _ z => by cases z) ?_
    refine ex_get (q := 27) (v := vi (gt (pt h 28 (gt h 3 l0 2) (gt h 3 l0 3) (gt h 6 l1 0)) 3 l0 3)) 3 dX3_toCleaning_24 rfl fl_X3_57 g1 rfl rfl ?_
    refine ex_iconst (q := 28) dX3_toCleaning_27 rfl ⟨by decide, by decide⟩ ?_
    refine ex_iadd (q := 29) dX3_toCleaning_28 rfl ?_
    refine ex_put (q := 32) 3 dX3_toCleaning_29 rfl fl_X3_57 (by decide) g1 rfl rfl (fun z => by cases z) ?_
    have hF := zl_e hF
    generalize pt (pt h 28 (gt h 3 l0 2) (gt h 3 l0 3) (gt h 6 l1 0)) 3 l0 3 (wI ((gt (pt h 28 (gt h 3 l0 2) (gt h 3 l0 3) (gt h 6 l1 0)) 3 l0 3) + 1)) = k6 at hF ⊢
    obtain ⟨rfl, rfl⟩ := zr hF
    exact ex_ret none rfl ⟨dX3_toCleaning_32, rfl⟩ ⟨rfl, rfl⟩
def F_X3_toCleaning (l0 l1 : Int) (h : zH) : zO := F_X3_toCleaning_0 l0 l1 h
theorem run_X3_toCleaning {l0 l1 : Int} {h : zH} {r : Int} {h' : zH} (hF : F_X3_toCleaning l0 l1 h = some (r, h')) : Run 0 yX3_toCleaning cX3_toCleaning 2 none [vr 3 l0, vr 6 l1] h none h' := run_of (M := M_X3_toCleaning) (by decide) rfl (fun z => by cases z) (Nat.le_of_ble_eq_true rfl) (x_X3_toCleaning_0 hF)
abbrev M_X5_add : zM := (RX5, (cX5_add, (4, (none, false))))
def F_X5_add_0 (l0 l1 l2 l3 : Int) (h : zH) : zO := if 0 ≤ l0 then (if 59 ≤ gt h 5 l0 4 then (if 0 ≤ gt (pt h 5 l0 4 0) 5 l0 0 then (if 0 ≤ gt (pt h 5 l0 4 0) 5 l0 4 ∧ gt (pt h 5 l0 4 0) 5 l0 4 < 60 then (if 0 ≤ gt (pt (pt h 5 l0 4 0) 31 (gt (pt h 5 l0 4 0) 5 l0 0) (gt (pt h 5 l0 4 0) 5 l0 4) l1) 5 l0 1 then (if 0 ≤ gt (pt (pt h 5 l0 4 0) 31 (gt (pt h 5 l0 4 0) 5 l0 0) (gt (pt h 5 l0 4 0) 5 l0 4) l1) 5 l0 4 ∧ gt (pt (pt h 5 l0 4 0) 31 (gt (pt h 5 l0 4 0) 5 l0 0) (gt (pt h 5 l0 4 0) 5 l0 4) l1) 5 l0 4 < 60 then (zl (pt (pt (pt h 5 l0 4 0) 31 (gt (pt h 5 l0 4 0) 5 l0 0) (gt (pt h 5 l0 4 0) 5 l0 4) l1) 32 (gt (pt (pt h 5 l0 4 0) 31 (gt (pt h 5 l0 4 0) 5 l0 0) (gt (pt h 5 l0 4 0) 5 l0 4) l1) 5 l0 1) (gt (pt (pt h 5 l0 4 0) 31 (gt (pt h 5 l0 4 0) 5 l0 0) (gt (pt h 5 l0 4 0) 5 l0 4) l1) 5 l0 4) l2) (fun k7 => if l3 = 0 then (if 0 ≤ gt k7 5 l0 2 then (if 0 ≤ gt k7 5 l0 4 ∧ gt k7 5 l0 4 < 60 then (if 60 ≤ gt (pt k7 33 (gt k7 5 l0 2) (gt k7 5 l0 4) 0) 5 l0 3 then (some (0, (pt k7 33 (gt k7 5 l0 2) (gt k7 5 l0 4) 0))) else (some (0, (pt (pt k7 33 (gt k7 5 l0 2) (gt k7 5 l0 4) 0) 5 l0 3 (wI ((gt (pt k7 33 (gt k7 5 l0 2) (gt k7 5 l0 4) 0) 5 l0 3) + 1)))))) else none) else none) else (if 0 ≤ gt k7 5 l0 2 then (if 0 ≤ gt k7 5 l0 4 ∧ gt k7 5 l0 4 < 60 then (if 60 ≤ gt (pt k7 33 (gt k7 5 l0 2) (gt k7 5 l0 4) 1) 5 l0 3 then (some (0, (pt k7 33 (gt k7 5 l0 2) (gt k7 5 l0 4) 1))) else (some (0, (pt (pt k7 33 (gt k7 5 l0 2) (gt k7 5 l0 4) 1) 5 l0 3 (wI ((gt (pt k7 33 (gt k7 5 l0 2) (gt k7 5 l0 4) 1) 5 l0 3) + 1)))))) else none) else none))) else none) else none) else none) else none) else (if 0 ≤ gt (pt h 5 l0 4 (wI ((gt h 5 l0 4) + 1))) 5 l0 0 then (if 0 ≤ gt (pt h 5 l0 4 (wI ((gt h 5 l0 4) + 1))) 5 l0 4 ∧ gt (pt h 5 l0 4 (wI ((gt h 5 l0 4) + 1))) 5 l0 4 < 60 then (zl (pt (pt h 5 l0 4 (wI ((gt h 5 l0 4) + 1))) 31 (gt (pt h 5 l0 4 (wI ((gt h 5 l0 4) + 1))) 5 l0 0) (gt (pt h 5 l0 4 (wI ((gt h 5 l0 4) + 1))) 5 l0 4) l1) (fun k17 => if 0 ≤ gt k17 5 l0 1 then (if 0 ≤ gt k17 5 l0 4 ∧ gt k17 5 l0 4 < 60 then (if l3 = 0 then (if 0 ≤ gt (pt k17 32 (gt k17 5 l0 1) (gt k17 5 l0 4) l2) 5 l0 2 then (if 0 ≤ gt (pt k17 32 (gt k17 5 l0 1) (gt k17 5 l0 4) l2) 5 l0 4 ∧ gt (pt k17 32 (gt k17 5 l0 1) (gt k17 5 l0 4) l2) 5 l0 4 < 60 then (zl (pt (pt k17 32 (gt k17 5 l0 1) (gt k17 5 l0 4) l2) 33 (gt (pt k17 32 (gt k17 5 l0 1) (gt k17 5 l0 4) l2) 5 l0 2) (gt (pt k17 32 (gt k17 5 l0 1) (gt k17 5 l0 4) l2) 5 l0 4) 0) (fun k23 => if 60 ≤ gt k23 5 l0 3 then (some (0, k23)) else (some (0, (pt k23 5 l0 3 (wI ((gt k23 5 l0 3) + 1))))))) else none) else none) else (if 0 ≤ gt (pt k17 32 (gt k17 5 l0 1) (gt k17 5 l0 4) l2) 5 l0 2 then (if 0 ≤ gt (pt k17 32 (gt k17 5 l0 1) (gt k17 5 l0 4) l2) 5 l0 4 ∧ gt (pt k17 32 (gt k17 5 l0 1) (gt k17 5 l0 4) l2) 5 l0 4 < 60 then (zl (pt (pt k17 32 (gt k17 5 l0 1) (gt k17 5 l0 4) l2) 33 (gt (pt k17 32 (gt k17 5 l0 1) (gt k17 5 l0 4) l2) 5 l0 2) (gt (pt k17 32 (gt k17 5 l0 1) (gt k17 5 l0 4) l2) 5 l0 4) 1) (fun k27 => if 60 ≤ gt k27 5 l0 3 then (some (0, k27)) else (some (0, (pt k27 5 l0 3 (wI ((gt k27 5 l0 3) + 1))))))) else none) else none)) else none) else none)) else none) else none)) else none
set_option maxHeartbeats 1000000 in
theorem x_X5_add_0 {l0 l1 l2 l3 : Int} {h : zH} {r : Int} {h' : zH} (hF : F_X5_add_0 l0 l1 l2 l3 h = some (r, h')) : Ex 0 M_X5_add 0 [some (vr 5 l0), some (vi l1), some (vi l2), some (vi l3)] [] h (fun r1 h1 => r1 = none ∧ h1 = h') := by
  unfold F_X5_add_0 at hF
  refine ex_aload_n (q := 1) dX5_add_0 rfl rfl ?_
  refine ex_aload_n (q := 2) dX5_add_1 rfl rfl ?_
  obtain ⟨g1, hF⟩ := zg hF
  refine ex_get (q := 5) (v := vi (gt h 5 l0 4)) 4 dX5_add_2 rfl fl_X5_21 g1 rfl rfl ?_
  refine ex_bipush (q := 7) dX5_add_5 rfl (by decide) ⟨by decide, by decide⟩ ?_
  refine ex_icmp_ge (q := 10) (tgt := 19) dX5_add_7 rfl (by decide) (fun c2 => ?_) (fun c2 => ?_)
  · have hF := ip c2 hF
    refine ex_iconst (q := 20) dX5_add_19 rfl ⟨by decide, by decide⟩ ?_
    refine ex_put (q := 23) 4 dX5_add_20 rfl fl_X5_21 (by decide) g1 rfl rfl (fun z => by cases z) ?_
    refine ex_aload_n (q := 24) dX5_add_23 rfl rfl ?_
    refine ex_get (q := 27) (v := vr 31 (gt (pt h 5 l0 4 0) 5 l0 0)) 0 dX5_add_24 rfl fl_X5_9 g1 rfl rfl ?_
    refine ex_aload_n (q := 28) dX5_add_27 rfl rfl ?_
    refine ex_get (q := 31) (v := vi (gt (pt h 5 l0 4 0) 5 l0 4)) 4 dX5_add_28 rfl fl_X5_21 g1 rfl rfl ?_
    refine ex_iload_n (q := 32) dX5_add_31 rfl rfl ?_
    obtain ⟨g3, hF⟩ := zg hF
    obtain ⟨g4, hF⟩ := zg hF
    refine ex_iast (q := 33) dX5_add_32 rfl kd_31 g3 g4.1 g4.2 ?_
    refine ex_aload_n (q := 34) dX5_add_33 rfl rfl ?_
    refine ex_get (q := 37) (v := vr 32 (gt (pt (pt h 5 l0 4 0) 31 (gt (pt h 5 l0 4 0) 5 l0 0) (gt (pt h 5 l0 4 0) 5 l0 4) l1) 5 l0 1)) 1 dX5_add_34 rfl fl_X5_15 g1 rfl rfl ?_
    refine ex_aload_n (q := 38) dX5_add_37 rfl rfl ?_
    refine ex_get (q := 41) (v := vi (gt (pt (pt h 5 l0 4 0) 31 (gt (pt h 5 l0 4 0) 5 l0 0) (gt (pt h 5 l0 4 0) 5 l0 4) l1) 5 l0 4)) 4 dX5_add_38 rfl fl_X5_21 g1 rfl rfl ?_
    refine ex_iload_n (q := 42) dX5_add_41 rfl rfl ?_
    obtain ⟨g5, hF⟩ := zg hF
    obtain ⟨g6, hF⟩ := zg hF
    refine ex_iast (q := 43) dX5_add_42 rfl kd_32 g5 g6.1 g6.2 ?_
    have hF := zl_e hF
    generalize pt (pt (pt h 5 l0 4 0) 31 (gt (pt h 5 l0 4 0) 5 l0 0) (gt (pt h 5 l0 4 0) 5 l0 4) l1) 32 (gt (pt (pt h 5 l0 4 0) 31 (gt (pt h 5 l0 4 0) 5 l0 0) (gt (pt h 5 l0 4 0) 5 l0 4) l1) 5 l0 1) (gt (pt (pt h 5 l0 4 0) 31 (gt (pt h 5 l0 4 0) 5 l0 0) (gt (pt h 5 l0 4 0) 5 l0 4) l1) 5 l0 4) l2 = k7 at hF ⊢
    refine ex_aload_n (q := 44) dX5_add_43 rfl rfl ?_
    refine ex_get (q := 47) (v := vr 33 (gt k7 5 l0 2)) 2 dX5_add_44 rfl fl_X5_18 g1 rfl rfl ?_
    refine ex_aload_n (q := 48) dX5_add_47 rfl rfl ?_
    refine ex_get (q := 51) (v := vi (gt k7 5 l0 4)) 4 dX5_add_48 rfl fl_X5_21 g1 rfl rfl ?_
    refine ex_iload_n (q := 52) dX5_add_51 rfl rfl ?_
    refine ex_if_eq (q := 55) (tgt := 59) dX5_add_52 rfl (by decide) (fun c8 => ?_) (fun c8 => ?_)
    · have hF := ip c8 hF
      refine ex_iconst (q := 60) dX5_add_59 rfl ⟨by decide, by decide⟩ ?_
      obtain ⟨g9, hF⟩ := zg hF
      obtain ⟨g10, hF⟩ := zg hF
      refine ex_iast (q := 61) dX5_add_60 rfl kd_33 g9 g10.1 g10.2 ?_
      refine ex_aload_n (q := 62) dX5_add_61 rfl rfl ?_
      refine ex_get (q := 65) (v := vi (gt (pt k7 33 (gt k7 5 l0 2) (gt k7 5 l0 4) 0) 5 l0 3)) 3 dX5_add_62 rfl fl_X5_25 g1 rfl rfl ?_
      refine ex_bipush (q := 67) dX5_add_65 rfl (by decide) ⟨by decide, by decide⟩ ?_
      refine ex_icmp_ge (q := 70) (tgt := 80) dX5_add_67 rfl (by decide) (fun c11 => ?_) (fun c11 => ?_)
      · have hF := ip c11 hF
        obtain ⟨rfl, rfl⟩ := zr hF
        exact ex_ret none rfl ⟨dX5_add_80, rfl⟩ ⟨rfl, rfl⟩
      · have hF := im c11 hF
        refine ex_aload_n (q := 71) dX5_add_70 rfl rfl ?_
        refine ex_dup (q := 72) dX5_add_71 rfl (fun _ z => by cases z) ?_
        refine ex_get (q := 75) (v := vi (gt (pt k7 33 (gt k7 5 l0 2) (gt k7 5 l0 4) 0) 5 l0 3)) 3 dX5_add_72 rfl fl_X5_25 g1 rfl rfl ?_
        refine ex_iconst (q := 76) dX5_add_75 rfl ⟨by decide, by decide⟩ ?_
        refine ex_iadd (q := 77) dX5_add_76 rfl ?_
        refine ex_put (q := 80) 3 dX5_add_77 rfl fl_X5_25 (by decide) g1 rfl rfl (fun z => by cases z) ?_
        obtain ⟨rfl, rfl⟩ := zr hF
        exact ex_ret none rfl ⟨dX5_add_80, rfl⟩ ⟨rfl, rfl⟩
    · have hF := im c8 hF
      refine ex_iconst (q := 56) dX5_add_55 rfl ⟨by decide, by decide⟩ ?_
      refine ex_goto (q := 60) dX5_add_56 (by decide) ?_
      obtain ⟨g12, hF⟩ := zg hF
      obtain ⟨g13, hF⟩ := zg hF
      refine ex_iast (q := 61) dX5_add_60 rfl kd_33 g12 g13.1 g13.2 ?_
      refine ex_aload_n (q := 62) dX5_add_61 rfl rfl ?_
      refine ex_get (q := 65) (v := vi (gt (pt k7 33 (gt k7 5 l0 2) (gt k7 5 l0 4) 1) 5 l0 3)) 3 dX5_add_62 rfl fl_X5_25 g1 rfl rfl ?_
      refine ex_bipush (q := 67) dX5_add_65 rfl (by decide) ⟨by decide, by decide⟩ ?_
      refine ex_icmp_ge (q := 70) (tgt := 80) dX5_add_67 rfl (by decide) (fun c14 => ?_) (fun c14 => ?_)
      · have hF := ip c14 hF
        obtain ⟨rfl, rfl⟩ := zr hF
        exact ex_ret none rfl ⟨dX5_add_80, rfl⟩ ⟨rfl, rfl⟩
      · have hF := im c14 hF
        refine ex_aload_n (q := 71) dX5_add_70 rfl rfl ?_
        refine ex_dup (q := 72) dX5_add_71 rfl (fun _ z => by cases z) ?_
        refine ex_get (q := 75) (v := vi (gt (pt k7 33 (gt k7 5 l0 2) (gt k7 5 l0 4) 1) 5 l0 3)) 3 dX5_add_72 rfl fl_X5_25 g1 rfl rfl ?_
        refine ex_iconst (q := 76) dX5_add_75 rfl ⟨by decide, by decide⟩ ?_
        refine ex_iadd (q := 77) dX5_add_76 rfl ?_
        refine ex_put (q := 80) 3 dX5_add_77 rfl fl_X5_25 (by decide) g1 rfl rfl (fun z => by cases z) ?_
        obtain ⟨rfl, rfl⟩ := zr hF
        exact ex_ret none rfl ⟨dX5_add_80, rfl⟩ ⟨rfl, rfl⟩
  · have hF := im c2 hF
    refine ex_aload_n (q := 11) dX5_add_10 rfl rfl ?_
    refine ex_get (q := 14) (v := vi (gt h 5 l0 4)) 4 dX5_add_11 rfl fl_X5_21 g1 rfl rfl ?_
    refine ex_iconst (q := 15) dX5_add_14 rfl ⟨by decide, by decide⟩ ?_
    refine ex_iadd (q := 16) dX5_add_15 rfl ?_
    refine ex_goto (q := 20) dX5_add_16 (by decide) ?_
    refine ex_put (q := 23) 4 dX5_add_20 rfl fl_X5_21 (by decide) g1 rfl rfl (fun z => by cases z) ?_
    refine ex_aload_n (q := 24) dX5_add_23 rfl rfl ?_
    refine ex_get (q := 27) (v := vr 31 (gt (pt h 5 l0 4 (wI ((gt h 5 l0 4) + 1))) 5 l0 0)) 0 dX5_add_24 rfl fl_X5_9 g1 rfl rfl ?_
    refine ex_aload_n (q := 28) dX5_add_27 rfl rfl ?_
    refine ex_get (q := 31) (v := vi (gt (pt h 5 l0 4 (wI ((gt h 5 l0 4) + 1))) 5 l0 4)) 4 dX5_add_28 rfl fl_X5_21 g1 rfl rfl ?_
    refine ex_iload_n (q := 32) dX5_add_31 rfl rfl ?_
    obtain ⟨g15, hF⟩ := zg hF
    obtain ⟨g16, hF⟩ := zg hF
    refine ex_iast (q := 33) dX5_add_32 rfl kd_31 g15 g16.1 g16.2 ?_
    have hF := zl_e hF
    generalize pt (pt h 5 l0 4 (wI ((gt h 5 l0 4) + 1))) 31 (gt (pt h 5 l0 4 (wI ((gt h 5 l0 4) + 1))) 5 l0 0) (gt (pt h 5 l0 4 (wI ((gt h 5 l0 4) + 1))) 5 l0 4) l1 = k17 at hF ⊢
    refine ex_aload_n (q := 34) dX5_add_33 rfl rfl ?_
    refine ex_get (q := 37) (v := vr 32 (gt k17 5 l0 1)) 1 dX5_add_34 rfl fl_X5_15 g1 rfl rfl ?_
    refine ex_aload_n (q := 38) dX5_add_37 rfl rfl ?_
    refine ex_get (q := 41) (v := vi (gt k17 5 l0 4)) 4 dX5_add_38 rfl fl_X5_21 g1 rfl rfl ?_
    refine ex_iload_n (q := 42) dX5_add_41 rfl rfl ?_
    obtain ⟨g18, hF⟩ := zg hF
    obtain ⟨g19, hF⟩ := zg hF
    refine ex_iast (q := 43) dX5_add_42 rfl kd_32 g18 g19.1 g19.2 ?_
    refine ex_aload_n (q := 44) dX5_add_43 rfl rfl ?_
    refine ex_get (q := 47) (v := vr 33 (gt (pt k17 32 (gt k17 5 l0 1) (gt k17 5 l0 4) l2) 5 l0 2)) 2 dX5_add_44 rfl fl_X5_18 g1 rfl rfl ?_
    refine ex_aload_n (q := 48) dX5_add_47 rfl rfl ?_
    refine ex_get (q := 51) (v := vi (gt (pt k17 32 (gt k17 5 l0 1) (gt k17 5 l0 4) l2) 5 l0 4)) 4 dX5_add_48 rfl fl_X5_21 g1 rfl rfl ?_
    refine ex_iload_n (q := 52) dX5_add_51 rfl rfl ?_
    refine ex_if_eq (q := 55) (tgt := 59) dX5_add_52 rfl (by decide) (fun c20 => ?_) (fun c20 => ?_)
    · have hF := ip c20 hF
      refine ex_iconst (q := 60) dX5_add_59 rfl ⟨by decide, by decide⟩ ?_
      obtain ⟨g21, hF⟩ := zg hF
      obtain ⟨g22, hF⟩ := zg hF
      refine ex_iast (q := 61) dX5_add_60 rfl kd_33 g21 g22.1 g22.2 ?_
      have hF := zl_e hF
      generalize pt (pt k17 32 (gt k17 5 l0 1) (gt k17 5 l0 4) l2) 33 (gt (pt k17 32 (gt k17 5 l0 1) (gt k17 5 l0 4) l2) 5 l0 2) (gt (pt k17 32 (gt k17 5 l0 1) (gt k17 5 l0 4) l2) 5 l0 4) 0 = k23 at hF ⊢
      refine ex_aload_n (q := 62) dX5_add_61 rfl rfl ?_
      refine ex_get (q := 65) (v := vi (gt k23 5 l0 3)) 3 dX5_add_62 rfl fl_X5_25 g1 rfl rfl ?_
      refine ex_bipush (q := 67) dX5_add_65 rfl (by decide) ⟨by decide, by decide⟩ ?_
      refine ex_icmp_ge (q := 70) (tgt := 80) dX5_add_67 rfl (by decide) (fun c24 => ?_) (fun c24 => ?_)
      · have hF := ip c24 hF
        obtain ⟨rfl, rfl⟩ := zr hF
        exact ex_ret none rfl ⟨dX5_add_80, rfl⟩ ⟨rfl, rfl⟩
      · have hF := im c24 hF
        refine ex_aload_n (q := 71) dX5_add_70 rfl rfl ?_
        refine ex_dup (q := 72) dX5_add_71 rfl (fun _ z => by cases z) ?_
        refine ex_get (q := 75) (v := vi (gt k23 5 l0 3)) 3 dX5_add_72 rfl fl_X5_25 g1 rfl rfl ?_
        refine ex_iconst (q := 76) dX5_add_75 rfl ⟨by decide, by decide⟩ ?_
        refine ex_iadd (q := 77) dX5_add_76 rfl ?_
        refine ex_put (q := 80) 3 dX5_add_77 rfl fl_X5_25 (by decide) g1 rfl rfl (fun z => by cases z) ?_
        obtain ⟨rfl, rfl⟩ := zr hF
        exact ex_ret none rfl ⟨dX5_add_80, rfl⟩ ⟨rfl, rfl⟩
    · have hF := im c20 hF
      refine ex_iconst (q := 56) dX5_add_55 rfl ⟨by decide, by decide⟩ ?_
      refine ex_goto (q := 60) dX5_add_56 (by decide) ?_
      obtain ⟨g25, hF⟩ := zg hF
      obtain ⟨g26, hF⟩ := zg hF
      refine ex_iast (q := 61) dX5_add_60 rfl kd_33 g25 g26.1 g26.2 ?_
      have hF := zl_e hF
      generalize pt (pt k17 32 (gt k17 5 l0 1) (gt k17 5 l0 4) l2) 33 (gt (pt k17 32 (gt k17 5 l0 1) (gt k17 5 l0 4) l2) 5 l0 2) (gt (pt k17 32 (gt k17 5 l0 1) (gt k17 5 l0 4) l2) 5 l0 4) 1 = k27 at hF ⊢
      refine ex_aload_n (q := 62) dX5_add_61 rfl rfl ?_
      refine ex_get (q := 65) (v := vi (gt k27 5 l0 3)) 3 dX5_add_62 rfl fl_X5_25 g1 rfl rfl ?_
      refine ex_bipush (q := 67) dX5_add_65 rfl (by decide) ⟨by decide, by decide⟩ ?_
      refine ex_icmp_ge (q := 70) (tgt := 80) dX5_add_67 rfl (by decide) (fun c28 => ?_) (fun c28 => ?_)
      · have hF := ip c28 hF
        obtain ⟨rfl, rfl⟩ := zr hF
        exact ex_ret none rfl ⟨dX5_add_80, rfl⟩ ⟨rfl, rfl⟩
      · have hF := im c28 hF
        refine ex_aload_n (q := 71) dX5_add_70 rfl rfl ?_
        refine ex_dup (q := 72) dX5_add_71 rfl (fun _ z => by cases z) ?_
        refine ex_get (q := 75) (v := vi (gt k27 5 l0 3)) 3 dX5_add_72 rfl fl_X5_25 g1 rfl rfl ?_
        refine ex_iconst (q := 76) dX5_add_75 rfl ⟨by decide, by decide⟩ ?_
        refine ex_iadd (q := 77) dX5_add_76 rfl ?_
        refine ex_put (q := 80) 3 dX5_add_77 rfl fl_X5_25 (by decide) g1 rfl rfl (fun z => by cases z) ?_
        obtain ⟨rfl, rfl⟩ := zr hF
        exact ex_ret none rfl ⟨dX5_add_80, rfl⟩ ⟨rfl, rfl⟩
def F_X5_add (l0 l1 l2 l3 : Int) (h : zH) : zO := F_X5_add_0 l0 l1 l2 l3 h
theorem run_X5_add {l0 l1 l2 l3 : Int} {h : zH} {r : Int} {h' : zH} (hF : F_X5_add l0 l1 l2 l3 h = some (r, h')) : Run 0 yX5_add cX5_add 4 none [vr 5 l0, vi l1, vi l2, vi l3] h none h' := run_of (M := M_X5_add) (by decide) rfl (fun z => by cases z) (Nat.le_of_ble_eq_true rfl) (x_X5_add_0 hF)
abbrev M_X3_takeBack : zM := (RX3, (cX3_takeBack, (4, ((some .boolean), false))))
def F_X3_takeBack_45 (l0 l1 l2 l3 : Int) (h : zH) : zO := if 0 ≤ l0 then (if 0 ≤ l1 then (if 0 ≤ gt h 3 l0 8 then (zb (F_X5_add (gt h 3 l0 8) (gt h 6 l1 0) l2 l3 h) (fun r3 h3 => if l3 = 0 ∨ l3 = 1 then some (l3, h3) else none)) else none) else none) else none
set_option maxHeartbeats 1000000 in
theorem x_X3_takeBack_45 {l0 l1 l2 l3 : Int} {h : zH} {r : Int} {h' : zH} (hF : F_X3_takeBack_45 l0 l1 l2 l3 h = some (r, h')) : Ex 1 M_X3_takeBack 45 [some (vr 3 l0), some (vr 6 l1), some (vi l2), some (vi l3)] [] h (fun r1 h1 => r1 = some (vi r) ∧ h1 = h') := by
  unfold F_X3_takeBack_45 at hF
  refine ex_aload_n (q := 46) dX3_takeBack_45 rfl rfl ?_
  obtain ⟨g1, hF⟩ := zg hF
  refine ex_get (q := 49) (v := vr 5 (gt h 3 l0 8)) 8 dX3_takeBack_46 rfl fl_X3_38 g1 rfl rfl ?_
  refine ex_aload_n (q := 50) dX3_takeBack_49 rfl rfl ?_
  obtain ⟨g2, hF⟩ := zg hF
  refine ex_get (q := 53) (v := vi (gt h 6 l1 0)) 0 dX3_takeBack_50 rfl fl_X3_85 g2 rfl rfl ?_
  refine ex_iload_n (q := 54) dX3_takeBack_53 rfl rfl ?_
  refine ex_iload_n (q := 55) dX3_takeBack_54 rfl rfl ?_
  obtain ⟨g4, hF⟩ := zg hF
  obtain ⟨r3, h3, e3, hF⟩ := zb_some hF
  refine ex_callV (d' := 0) (q := 58) (as := [vi (gt h 6 l1 0), vi l2, vi l3]) (st1 := []) (r := none) (h2 := h3) dX3_takeBack_55 rfl (run_X5_add e3) mc_X5_add mv_X5_add ml_X3_101 (by decide) g4 rfl rfl (Nat.le_of_ble_eq_true rfl) rfl ?_
  refine ex_iload_n (q := 59) dX3_takeBack_58 rfl rfl ?_
  obtain ⟨g5, hF⟩ := zg hF
  obtain ⟨rfl, rfl⟩ := zr hF
  exact ex_ret (some (vi l3)) rfl ⟨dX3_takeBack_59, Or.inr ⟨rfl, g5⟩⟩ ⟨rfl, rfl⟩
def F_X3_takeBack_0 (l0 l1 l2 : Int) (h : zH) : zO := if 0 ≤ l0 then (if 0 ≤ l1 then (if 0 ≤ gt h 3 l0 7 then (zb (F_X7_meets (gt h 3 l0 7) (gt h 6 l1 0) 1 h) (fun r3 h3 => zb (F_X3_holdNoMore l0 l1 h3) (fun r5 h5 => if r3 = 0 then (zb (F_X3_toCleaning l0 l1 (pt h5 6 l1 3 2)) (fun r7 h7 => F_X3_takeBack_45 l0 l1 l2 r3 h7)) else (zb (F_X3_charge l0 l1 (pt h5 6 l1 3 3)) (fun r8 h8 => F_X3_takeBack_45 l0 l1 l2 r3 h8))))) else none) else none) else none
set_option maxHeartbeats 1000000 in
theorem x_X3_takeBack_0 {l0 l1 l2 : Int} {h : zH} {r : Int} {h' : zH} (hF : F_X3_takeBack_0 l0 l1 l2 h = some (r, h')) : Ex 1 M_X3_takeBack 0 [some (vr 3 l0), some (vr 6 l1), some (vi l2), none] [] h (fun r1 h1 => r1 = some (vi r) ∧ h1 = h') := by
  unfold F_X3_takeBack_0 at hF
  refine ex_aload_n (q := 1) dX3_takeBack_0 rfl rfl ?_
  obtain ⟨g1, hF⟩ := zg hF
  refine ex_get (q := 4) (v := vr 7 (gt h 3 l0 7)) 7 dX3_takeBack_1 rfl fl_X3_31 g1 rfl rfl ?_
  refine ex_aload_n (q := 5) dX3_takeBack_4 rfl rfl ?_
  obtain ⟨g2, hF⟩ := zg hF
  refine ex_get (q := 8) (v := vi (gt h 6 l1 0)) 0 dX3_takeBack_5 rfl fl_X3_85 g2 rfl rfl ?_
  refine ex_iconst (q := 9) dX3_takeBack_8 rfl ⟨by decide, by decide⟩ ?_
  obtain ⟨g4, hF⟩ := zg hF
  obtain ⟨r3, h3, e3, hF⟩ := zb_some hF
  refine ex_callV (d' := 0) (q := 12) (as := [vi (gt h 6 l1 0), vi 1]) (st1 := [vi r3]) (r := (some (vi r3))) (h2 := h3) dX3_takeBack_9 rfl (run_X7_meets e3) mc_X7_meets mv_X7_meets ml_X3_88 (by decide) g4 rfl rfl (Nat.le_of_ble_eq_true rfl) rfl ?_
  refine ex_istore_n (q := 13) (lo' := [some (vr 3 l0), some (vr 6 l1), some (vi l2), some (vi r3)]) dX3_takeBack_12 rfl (by decide) rfl rfl ?_
  refine ex_aload_n (q := 14) dX3_takeBack_13 rfl rfl ?_
  refine ex_aload_n (q := 15) dX3_takeBack_14 rfl rfl ?_
  obtain ⟨r5, h5, e5, hF⟩ := zb_some hF
  refine ex_callV (d' := 0) (q := 18) (as := [vr 6 l1]) (st1 := []) (r := none) (h2 := h5) dX3_takeBack_15 rfl (run_X3_holdNoMore e5) mc_X3_holdNoMore mv_X3_holdNoMore ml_X3_91 (by decide) g1 rfl rfl (Nat.le_of_ble_eq_true rfl) rfl ?_
  refine ex_iload_n (q := 19) dX3_takeBack_18 rfl rfl ?_
  refine ex_if_eq (q := 22) (tgt := 35) dX3_takeBack_19 rfl (by decide) (fun c6 => ?_) (fun c6 => ?_)
  · have hF := ip c6 hF
    refine ex_aload_n (q := 36) dX3_takeBack_35 rfl rfl ?_
    refine ex_iconst (q := 37) dX3_takeBack_36 rfl ⟨by decide, by decide⟩ ?_
    refine ex_put (q := 40) 3 dX3_takeBack_37 rfl fl_X3_66 (by decide) g2 rfl rfl (fun z => by cases z) ?_
    refine ex_aload_n (q := 41) dX3_takeBack_40 rfl rfl ?_
    refine ex_aload_n (q := 42) dX3_takeBack_41 rfl rfl ?_
    obtain ⟨r7, h7, e7, hF⟩ := zb_some hF
    refine ex_callV (d' := 0) (q := 45) (as := [vr 6 l1]) (st1 := []) (r := none) (h2 := h7) dX3_takeBack_42 rfl (run_X3_toCleaning e7) mc_X3_toCleaning mv_X3_toCleaning ml_X3_98 (by decide) g1 rfl rfl (Nat.le_of_ble_eq_true rfl) rfl ?_
    exact ex_forget (lo' := [some (vr 3 l0), some (vr 6 l1), some (vi l2), some (vi r3)]) ⟨Or.inr rfl, Or.inr rfl, Or.inr rfl, Or.inr rfl, trivial⟩ (x_X3_takeBack_45 hF)
  · have hF := im c6 hF
    refine ex_aload_n (q := 23) dX3_takeBack_22 rfl rfl ?_
    refine ex_iconst (q := 24) dX3_takeBack_23 rfl ⟨by decide, by decide⟩ ?_
    refine ex_put (q := 27) 3 dX3_takeBack_24 rfl fl_X3_66 (by decide) g2 rfl rfl (fun z => by cases z) ?_
    refine ex_aload_n (q := 28) dX3_takeBack_27 rfl rfl ?_
    refine ex_aload_n (q := 29) dX3_takeBack_28 rfl rfl ?_
    obtain ⟨r8, h8, e8, hF⟩ := zb_some hF
    refine ex_callV (d' := 0) (q := 32) (as := [vr 6 l1]) (st1 := []) (r := none) (h2 := h8) dX3_takeBack_29 rfl (run_X3_charge e8) mc_X3_charge mv_X3_charge ml_X3_95 (by decide) g1 rfl rfl (Nat.le_of_ble_eq_true rfl) rfl ?_
    refine ex_goto (q := 45) dX3_takeBack_32 (by decide) ?_
    exact ex_forget (lo' := [some (vr 3 l0), some (vr 6 l1), some (vi l2), some (vi r3)]) ⟨Or.inr rfl, Or.inr rfl, Or.inr rfl, Or.inr rfl, trivial⟩ (x_X3_takeBack_45 hF)
def F_X3_takeBack (l0 l1 l2 : Int) (h : zH) : zO := F_X3_takeBack_0 l0 l1 l2 h
theorem run_X3_takeBack {l0 l1 l2 : Int} {h : zH} {r : Int} {h' : zH} (hF : F_X3_takeBack l0 l1 l2 h = some (r, h')) : Run 1 yX3_takeBack cX3_takeBack 4 (some .boolean) [vr 3 l0, vr 6 l1, vi l2] h (some (vi r)) h' := run_of (M := M_X3_takeBack) (by decide) rfl (fun z => by cases z) (Nat.le_of_ble_eq_true rfl) (x_X3_takeBack_0 hF)
abbrev M_X8_giveUp : zM := (RX8, (cX8_giveUp, (6, ((some .boolean), false))))
def F_X8_giveUp_36 (l0 l1 l2 : Int) (h : zH) : zO := if 0 ≤ l1 then (if gt h 4 l1 1 = 2 then (some (0, h)) else (if gt h 4 l1 0 = -1 then (some (0, h)) else (if 0 ≤ l0 then (if 0 ≤ gt h 8 l0 0 then (zb (F_X3_takeBack (gt h 8 l0 0) (gt h 4 l1 0) l2 h) (fun r5 h5 => if r5 = 0 then (some (0, h5)) else (some (1, h5)))) else none) else none))) else none
set_option maxHeartbeats 1000000 in
theorem x_X8_giveUp_36 {l0 l1 l2 : Int} {h : zH} {r : Int} {h' : zH} (hF : F_X8_giveUp_36 l0 l1 l2 h = some (r, h')) : Ex 2 M_X8_giveUp 36 [some (vr 8 l0), some (vr 4 l1), some (vi l2), none, none, none] [] h (fun r1 h1 => r1 = some (vi r) ∧ h1 = h') := by
  unfold F_X8_giveUp_36 at hF
  refine ex_aload_n (q := 37) dX8_giveUp_36 rfl rfl ?_
  obtain ⟨g1, hF⟩ := zg hF
  refine ex_get (q := 40) (v := vi (gt h 4 l1 1)) 1 dX8_giveUp_37 rfl fl_X8_267 g1 rfl rfl ?_
  refine ex_iconst (q := 41) dX8_giveUp_40 rfl ⟨by decide, by decide⟩ ?_
  refine ex_icmp_eq (q := 44) (tgt := 70) dX8_giveUp_41 rfl (by decide) (fun c2 => ?_) (fun c2 => ?_)
  · have hF := ip c2 hF
    refine ex_iconst (q := 71) dX8_giveUp_70 rfl ⟨by decide, by decide⟩ ?_
    obtain ⟨rfl, rfl⟩ := zr hF
    exact ex_ret (some (vi 0)) rfl ⟨dX8_giveUp_71, Or.inr ⟨rfl, (by decide)⟩⟩ ⟨rfl, rfl⟩
  · have hF := im c2 hF
    refine ex_aload_n (q := 45) dX8_giveUp_44 rfl rfl ?_
    refine ex_get (q := 48) (v := vr 6 (gt h 4 l1 0)) 0 dX8_giveUp_45 rfl fl_X8_263 g1 rfl rfl ?_
    refine ex_ifnull (q := 51) (tgt := 70) dX8_giveUp_48 rfl (by decide) (fun c3 => ?_) (fun c3 => ?_)
    · have hF := ip c3 hF
      refine ex_iconst (q := 71) dX8_giveUp_70 rfl ⟨by decide, by decide⟩ ?_
      obtain ⟨rfl, rfl⟩ := zr hF
      exact ex_ret (some (vi 0)) rfl ⟨dX8_giveUp_71, Or.inr ⟨rfl, (by decide)⟩⟩ ⟨rfl, rfl⟩
    · have hF := im c3 hF
      refine ex_aload_n (q := 52) dX8_giveUp_51 rfl rfl ?_
      obtain ⟨g4, hF⟩ := zg hF
      refine ex_get (q := 55) (v := vr 3 (gt h 8 l0 0)) 0 dX8_giveUp_52 rfl fl_X8_46 g4 rfl rfl ?_
      refine ex_aload_n (q := 56) dX8_giveUp_55 rfl rfl ?_
      refine ex_get (q := 59) (v := vr 6 (gt h 4 l1 0)) 0 dX8_giveUp_56 rfl fl_X8_263 g1 rfl rfl ?_
      refine ex_iload_n (q := 60) dX8_giveUp_59 rfl rfl ?_
      obtain ⟨g6, hF⟩ := zg hF
      obtain ⟨r5, h5, e5, hF⟩ := zb_some hF
      refine ex_callV (d' := 1) (q := 63) (as := [vr 6 (gt h 4 l1 0), vi l2]) (st1 := [vi r5]) (r := (some (vi r5))) (h2 := h5) dX8_giveUp_60 rfl (run_X3_takeBack e5) mc_X3_takeBack mv_X3_takeBack ml_X8_290 (by decide) g6 rfl rfl (Nat.le_of_ble_eq_true rfl) rfl ?_
      refine ex_if_eq (q := 66) (tgt := 70) dX8_giveUp_63 rfl (by decide) (fun c7 => ?_) (fun c7 => ?_)
      · have hF := ip c7 hF
        refine ex_iconst (q := 71) dX8_giveUp_70 rfl ⟨by decide, by decide⟩ ?_
        obtain ⟨rfl, rfl⟩ := zr hF
        exact ex_ret (some (vi 0)) rfl ⟨dX8_giveUp_71, Or.inr ⟨rfl, (by decide)⟩⟩ ⟨rfl, rfl⟩
      · have hF := im c7 hF
        refine ex_iconst (q := 67) dX8_giveUp_66 rfl ⟨by decide, by decide⟩ ?_
        refine ex_goto (q := 71) dX8_giveUp_67 (by decide) ?_
        obtain ⟨rfl, rfl⟩ := zr hF
        exact ex_ret (some (vi 1)) rfl ⟨dX8_giveUp_71, Or.inr ⟨rfl, (by decide)⟩⟩ ⟨rfl, rfl⟩
def F_X8_giveUp_5b (ag5 : Int → Int → Int → Int → Int → zH → zO) (l0 l1 l2 l3 l4 : Int) (h : zH) : zO := if 160 ≤ l4 then (F_X8_giveUp_36 l0 l1 l2 h) else (if l3 = -1 then (F_X8_giveUp_36 l0 l1 l2 h) else (if 0 ≤ l3 then (zb (F_X4_close l3 h) (fun r4 h4 => ag5 l0 l1 l2 (gt h 4 l3 4) (wI (l4 + 1)) h4)) else none))
set_option maxHeartbeats 1000000 in
theorem x_X8_giveUp_5b {ag5 : Int → Int → Int → Int → Int → zH → zO} (hag5 : ∀ (l0 l1 l2 l3 l4 : Int) (h : zH) (r : Int) (h' : zH), ag5 l0 l1 l2 l3 l4 h = some (r, h') → Ex 2 M_X8_giveUp 5 [some (vr 8 l0), some (vr 4 l1), some (vi l2), some (vr 4 l3), some (vi l4), none] [] h (fun r1 h1 => r1 = some (vi r) ∧ h1 = h')) {l0 l1 l2 l3 l4 : Int} {h : zH} {r : Int} {h' : zH} (hF : F_X8_giveUp_5b ag5 l0 l1 l2 l3 l4 h = some (r, h')) : Ex 2 M_X8_giveUp 5 [some (vr 8 l0), some (vr 4 l1), some (vi l2), some (vr 4 l3), some (vi l4), none] [] h (fun r1 h1 => r1 = some (vi r) ∧ h1 = h') := by
  unfold F_X8_giveUp_5b at hF
  refine ex_iload (q := 7) dX8_giveUp_5 rfl rfl ?_
  refine ex_sipush (q := 10) dX8_giveUp_7 rfl (by decide) ⟨by decide, by decide⟩ ?_
  refine ex_icmp_ge (q := 13) (tgt := 36) dX8_giveUp_10 rfl (by decide) (fun c1 => ?_) (fun c1 => ?_)
  · have hF := ip c1 hF
    exact ex_forget (lo' := [some (vr 8 l0), some (vr 4 l1), some (vi l2), none, none, none]) ⟨Or.inr rfl, Or.inr rfl, Or.inr rfl, Or.inl rfl, Or.inl rfl, Or.inl rfl, trivial⟩ (x_X8_giveUp_36 hF)
  · have hF := im c1 hF
    refine ex_aload_n (q := 14) dX8_giveUp_13 rfl rfl ?_
    refine ex_ifnull (q := 17) (tgt := 36) dX8_giveUp_14 rfl (by decide) (fun c2 => ?_) (fun c2 => ?_)
    · have hF := ip c2 hF
      exact ex_forget (lo' := [some (vr 8 l0), some (vr 4 l1), some (vi l2), none, none, none]) ⟨Or.inr rfl, Or.inr rfl, Or.inr rfl, Or.inl rfl, Or.inl rfl, Or.inl rfl, trivial⟩ (x_X8_giveUp_36 hF)
    · have hF := im c2 hF
      refine ex_aload_n (q := 18) dX8_giveUp_17 rfl rfl ?_
      obtain ⟨g3, hF⟩ := zg hF
      refine ex_get (q := 21) (v := vr 4 (gt h 4 l3 4)) 4 dX8_giveUp_18 rfl fl_X8_278 g3 rfl rfl ?_
      refine ex_astore (q := 23) (lo' := [some (vr 8 l0), some (vr 4 l1), some (vi l2), some (vr 4 l3), some (vi l4), some (vr 4 (gt h 4 l3 4))]) dX8_giveUp_21 rfl (by decide) rfl rfl ?_
      refine ex_aload_n (q := 24) dX8_giveUp_23 rfl rfl ?_
      obtain ⟨r4, h4, e4, hF⟩ := zb_some hF
      refine ex_callV (d' := 1) (q := 27) (as := []) (st1 := []) (r := none) (h2 := h4) dX8_giveUp_24 rfl (run_X4_close e4) mc_X4_close mv_X4_close ml_X8_287 (by decide) g3 rfl rfl (Nat.le_of_ble_eq_true rfl) rfl ?_
      refine ex_aload (q := 29) dX8_giveUp_27 rfl rfl ?_
      refine ex_astore_n (q := 30) (lo' := [some (vr 8 l0), some (vr 4 l1), some (vi l2), some (vr 4 (gt h 4 l3 4)), some (vi l4), some (vr 4 (gt h 4 l3 4))]) dX8_giveUp_29 rfl (by decide) rfl rfl ?_
      refine ex_iinc (q := 33) (lo' := [some (vr 8 l0), some (vr 4 l1), some (vi l2), some (vr 4 (gt h 4 l3 4)), some (vi (wI (l4 + 1))), some (vr 4 (gt h 4 l3 4))]) dX8_giveUp_30 rfl rfl (by decide) rfl rfl ?_
      refine ex_goto (q := 5) dX8_giveUp_33 (by decide) ?_
      exact ex_forget (lo' := [some (vr 8 l0), some (vr 4 l1), some (vi l2), some (vr 4 (gt h 4 l3 4)), some (vi (wI (l4 + 1))), none]) ⟨Or.inr rfl, Or.inr rfl, Or.inr rfl, Or.inr rfl, Or.inr rfl, Or.inl rfl, trivial⟩ (hag5 _ _ _ _ _ _ _ _ hF)
def F_X8_giveUp_5 : Nat → Int → Int → Int → Int → Int → zH → zO
  | 0, _, _, _, _, _, _ => none
  | n + 1, l0, l1, l2, l3, l4, h => F_X8_giveUp_5b (F_X8_giveUp_5 n) l0 l1 l2 l3 l4 h
theorem x_X8_giveUp_5 : ∀ (n : Nat) (l0 l1 l2 l3 l4 : Int) (h : zH) (r : Int) (h' : zH), F_X8_giveUp_5 n l0 l1 l2 l3 l4 h = some (r, h') → Ex 2 M_X8_giveUp 5 [some (vr 8 l0), some (vr 4 l1), some (vi l2), some (vr 4 l3), some (vi l4), none] [] h (fun r1 h1 => r1 = some (vi r) ∧ h1 = h')
  | 0, _, _, _, _, _, _, _, _, hF => by cases hF
  | n + 1, _, _, _, _, _, _, _, _, hF => x_X8_giveUp_5b (x_X8_giveUp_5 n) hF
def F_X8_giveUp_0 (l0 l1 l2 : Int) (h : zH) : zO := F_X8_giveUp_5 zF l0 l1 l2 l1 0 h
set_option maxHeartbeats 1000000 in
theorem x_X8_giveUp_0 {l0 l1 l2 : Int} {h : zH} {r : Int} {h' : zH} (hF : F_X8_giveUp_0 l0 l1 l2 h = some (r, h')) : Ex 2 M_X8_giveUp 0 [some (vr 8 l0), some (vr 4 l1), some (vi l2), none, none, none] [] h (fun r1 h1 => r1 = some (vi r) ∧ h1 = h') := by
  unfold F_X8_giveUp_0 at hF
  refine ex_aload_n (q := 1) dX8_giveUp_0 rfl rfl ?_
  refine ex_astore_n (q := 2) (lo' := [some (vr 8 l0), some (vr 4 l1), some (vi l2), some (vr 4 l1), none, none]) dX8_giveUp_1 rfl (by decide) rfl rfl ?_
  refine ex_iconst (q := 3) dX8_giveUp_2 rfl ⟨by decide, by decide⟩ ?_
  refine ex_istore (q := 5) (lo' := [some (vr 8 l0), some (vr 4 l1), some (vi l2), some (vr 4 l1), some (vi 0), none]) dX8_giveUp_3 rfl (by decide) rfl rfl ?_
  exact ex_forget (lo' := [some (vr 8 l0), some (vr 4 l1), some (vi l2), some (vr 4 l1), some (vi 0), none]) ⟨Or.inr rfl, Or.inr rfl, Or.inr rfl, Or.inr rfl, Or.inr rfl, Or.inl rfl, trivial⟩ (x_X8_giveUp_5 _ _ _ _ _ _ _ _ _ hF)
def F_X8_giveUp (l0 l1 l2 : Int) (h : zH) : zO := F_X8_giveUp_0 l0 l1 l2 h
theorem run_X8_giveUp {l0 l1 l2 : Int} {h : zH} {r : Int} {h' : zH} (hF : F_X8_giveUp l0 l1 l2 h = some (r, h')) : Run 2 yX8_giveUp cX8_giveUp 6 (some .boolean) [vr 8 l0, vr 4 l1, vi l2] h (some (vi r)) h' := run_of (M := M_X8_giveUp) (by decide) rfl (fun z => by cases z) (Nat.le_of_ble_eq_true rfl) (x_X8_giveUp_0 hF)
abbrev M_X8_partOf : zM := (RX8, (cX8_partOf, (1, ((some .int), false))))
def F_X8_partOf_0 (l0 : Int) (h : zH) : zO := if l0 = -1 then (some ((-1), h)) else (if 0 ≤ l0 then (if gt h 4 l0 0 ≠ -1 then (if 0 ≤ gt h 4 l0 0 then (some (gt h 6 (gt h 4 l0 0) 0, h)) else none) else (some ((-1), h))) else none)
set_option maxHeartbeats 1000000 in
theorem x_X8_partOf_0 {l0 : Int} {h : zH} {r : Int} {h' : zH} (hF : F_X8_partOf_0 l0 h = some (r, h')) : Ex 0 M_X8_partOf 0 [some (vr 4 l0)] [] h (fun r1 h1 => r1 = some (vi r) ∧ h1 = h') := by
  unfold F_X8_partOf_0 at hF
  refine ex_aload_n (q := 1) dX8_partOf_0 rfl rfl ?_
  refine ex_ifnull (q := 4) (tgt := 11) dX8_partOf_1 rfl (by decide) (fun c1 => ?_) (fun c1 => ?_)
  · have hF := ip c1 hF
    refine ex_iconst (q := 12) dX8_partOf_11 rfl ⟨by decide, by decide⟩ ?_
    refine ex_goto (q := 22) dX8_partOf_12 (by decide) ?_
    obtain ⟨rfl, rfl⟩ := zr hF
    exact ex_ret (some (vi (-1))) rfl ⟨dX8_partOf_22, Or.inl rfl⟩ ⟨rfl, rfl⟩
  · have hF := im c1 hF
    refine ex_aload_n (q := 5) dX8_partOf_4 rfl rfl ?_
    obtain ⟨g2, hF⟩ := zg hF
    refine ex_get (q := 8) (v := vr 6 (gt h 4 l0 0)) 0 dX8_partOf_5 rfl fl_X8_263 g2 rfl rfl ?_
    refine ex_ifnonnull (q := 11) (tgt := 15) dX8_partOf_8 rfl (by decide) (fun c3 => ?_) (fun c3 => ?_)
    · have hF := ip c3 hF
      refine ex_aload_n (q := 16) dX8_partOf_15 rfl rfl ?_
      refine ex_get (q := 19) (v := vr 6 (gt h 4 l0 0)) 0 dX8_partOf_16 rfl fl_X8_263 g2 rfl rfl ?_
      obtain ⟨g4, hF⟩ := zg hF
      refine ex_get (q := 22) (v := vi (gt h 6 (gt h 4 l0 0) 0)) 0 dX8_partOf_19 rfl fl_X8_282 g4 rfl rfl ?_
      obtain ⟨rfl, rfl⟩ := zr hF
      exact ex_ret (some (vi (gt h 6 (gt h 4 l0 0) 0))) rfl ⟨dX8_partOf_22, Or.inl rfl⟩ ⟨rfl, rfl⟩
    · have hF := im c3 hF
      refine ex_iconst (q := 12) dX8_partOf_11 rfl ⟨by decide, by decide⟩ ?_
      refine ex_goto (q := 22) dX8_partOf_12 (by decide) ?_
      obtain ⟨rfl, rfl⟩ := zr hF
      exact ex_ret (some (vi (-1))) rfl ⟨dX8_partOf_22, Or.inl rfl⟩ ⟨rfl, rfl⟩
def F_X8_partOf (l0 : Int) (h : zH) : zO := F_X8_partOf_0 l0 h
theorem run_X8_partOf {l0 : Int} {h : zH} {r : Int} {h' : zH} (hF : F_X8_partOf l0 h = some (r, h')) : Run 0 yX8_partOf cX8_partOf 1 (some .int) [vr 4 l0] h (some (vi r)) h' := run_of (M := M_X8_partOf) (by decide) rfl (fun z => by cases z) (Nat.le_of_ble_eq_true rfl) (x_X8_partOf_0 hF)
abbrev M_X2_add : zM := (RX2, (cX2_add, (5, ((some .int), false))))
def F_X2_add_0 (l0 l1 l2 l3 l4 : Int) (h : zH) : zO := if 0 ≤ l0 then (zb (F_X11_within (gt h 2 l0 6) 16 h) (fun r2 h2 => if r2 ≠ 0 then (if 0 ≤ gt h2 2 l0 0 then (if 0 ≤ gt h2 2 l0 6 ∧ gt h2 2 l0 6 < 16 then (if 0 ≤ gt (pt h2 21 (gt h2 2 l0 0) (gt h2 2 l0 6) l1) 2 l0 1 then (if 0 ≤ gt (pt h2 21 (gt h2 2 l0 0) (gt h2 2 l0 6) l1) 2 l0 6 ∧ gt (pt h2 21 (gt h2 2 l0 0) (gt h2 2 l0 6) l1) 2 l0 6 < 16 then (zl (pt (pt h2 21 (gt h2 2 l0 0) (gt h2 2 l0 6) l1) 22 (gt (pt h2 21 (gt h2 2 l0 0) (gt h2 2 l0 6) l1) 2 l0 1) (gt (pt h2 21 (gt h2 2 l0 0) (gt h2 2 l0 6) l1) 2 l0 6) l2) (fun k8 => if 0 ≤ gt k8 2 l0 2 then (if 0 ≤ gt k8 2 l0 6 ∧ gt k8 2 l0 6 < 16 then (if 0 ≤ gt (pt k8 23 (gt k8 2 l0 2) (gt k8 2 l0 6) l3) 2 l0 3 then (if 0 ≤ gt (pt k8 23 (gt k8 2 l0 2) (gt k8 2 l0 6) l3) 2 l0 6 ∧ gt (pt k8 23 (gt k8 2 l0 2) (gt k8 2 l0 6) l3) 2 l0 6 < 16 then (zl (pt (pt k8 23 (gt k8 2 l0 2) (gt k8 2 l0 6) l3) 24 (gt (pt k8 23 (gt k8 2 l0 2) (gt k8 2 l0 6) l3) 2 l0 3) (gt (pt k8 23 (gt k8 2 l0 2) (gt k8 2 l0 6) l3) 2 l0 6) l4) (fun k13 => if 0 ≤ gt k13 2 l0 4 then (if 0 ≤ gt k13 2 l0 6 ∧ gt k13 2 l0 6 < 16 then (if 0 ≤ gt (pt k13 25 (gt k13 2 l0 4) (gt k13 2 l0 6) (-1)) 2 l0 5 then (if 0 ≤ gt (pt k13 25 (gt k13 2 l0 4) (gt k13 2 l0 6) (-1)) 2 l0 6 ∧ gt (pt k13 25 (gt k13 2 l0 4) (gt k13 2 l0 6) (-1)) 2 l0 6 < 16 then (zl (pt (pt k13 25 (gt k13 2 l0 4) (gt k13 2 l0 6) (-1)) 26 (gt (pt k13 25 (gt k13 2 l0 4) (gt k13 2 l0 6) (-1)) 2 l0 5) (gt (pt k13 25 (gt k13 2 l0 4) (gt k13 2 l0 6) (-1)) 2 l0 6) (-1)) (fun k18 => some (wI ((gt (pt k18 2 l0 6 (wI ((gt k18 2 l0 6) + 1))) 2 l0 6) - 1), (pt k18 2 l0 6 (wI ((gt k18 2 l0 6) + 1)))))) else none) else none) else none) else none)) else none) else none) else none) else none)) else none) else none) else none) else none) else (some ((-1), h2)))) else none
set_option maxHeartbeats 1000000 in
theorem x_X2_add_0 {l0 l1 l2 l3 l4 : Int} {h : zH} {r : Int} {h' : zH} (hF : F_X2_add_0 l0 l1 l2 l3 l4 h = some (r, h')) : Ex 1 M_X2_add 0 [some (vr 2 l0), some (vi l1), some (vi l2), some (vi l3), some (vi l4)] [] h (fun r1 h1 => r1 = some (vi r) ∧ h1 = h') := by
  unfold F_X2_add_0 at hF
  refine ex_aload_n (q := 1) dX2_add_0 rfl rfl ?_
  obtain ⟨g1, hF⟩ := zg hF
  refine ex_get (q := 4) (v := vi (gt h 2 l0 6)) 6 dX2_add_1 rfl fl_X2_30 g1 rfl rfl ?_
  refine ex_bipush (q := 6) dX2_add_4 rfl (by decide) ⟨by decide, by decide⟩ ?_
  obtain ⟨r2, h2, e2, hF⟩ := zb_some hF
  refine ex_callS (d' := 0) (q := 9) (as := [vi (gt h 2 l0 6), vi 16]) (st1 := [vi r2]) (r := (some (vi r2))) (h2 := h2) dX2_add_6 rfl (run_X11_within e2) mc_X11_within ms_X11_within ml_X2_34 (by decide) rfl rfl (Nat.le_of_ble_eq_true rfl) rfl ?_
  refine ex_if_ne (q := 12) (tgt := 14) dX2_add_9 rfl (by decide) (fun c3 => ?_) (fun c3 => ?_)
  · have hF := ip c3 hF
    refine ex_aload_n (q := 15) dX2_add_14 rfl rfl ?_
    refine ex_get (q := 18) (v := vr 21 (gt h2 2 l0 0)) 0 dX2_add_15 rfl fl_X2_9 g1 rfl rfl ?_
    refine ex_aload_n (q := 19) dX2_add_18 rfl rfl ?_
    refine ex_get (q := 22) (v := vi (gt h2 2 l0 6)) 6 dX2_add_19 rfl fl_X2_30 g1 rfl rfl ?_
    refine ex_iload_n (q := 23) dX2_add_22 rfl rfl ?_
    obtain ⟨g4, hF⟩ := zg hF
    obtain ⟨g5, hF⟩ := zg hF
    refine ex_iast (q := 24) dX2_add_23 rfl kd_21 g4 g5.1 g5.2 ?_
    refine ex_aload_n (q := 25) dX2_add_24 rfl rfl ?_
    refine ex_get (q := 28) (v := vr 22 (gt (pt h2 21 (gt h2 2 l0 0) (gt h2 2 l0 6) l1) 2 l0 1)) 1 dX2_add_25 rfl fl_X2_15 g1 rfl rfl ?_
    refine ex_aload_n (q := 29) dX2_add_28 rfl rfl ?_
    refine ex_get (q := 32) (v := vi (gt (pt h2 21 (gt h2 2 l0 0) (gt h2 2 l0 6) l1) 2 l0 6)) 6 dX2_add_29 rfl fl_X2_30 g1 rfl rfl ?_
    refine ex_iload_n (q := 33) dX2_add_32 rfl rfl ?_
    obtain ⟨g6, hF⟩ := zg hF
    obtain ⟨g7, hF⟩ := zg hF
    refine ex_iast (q := 34) dX2_add_33 rfl kd_22 g6 g7.1 g7.2 ?_
    have hF := zl_e hF
    generalize pt (pt h2 21 (gt h2 2 l0 0) (gt h2 2 l0 6) l1) 22 (gt (pt h2 21 (gt h2 2 l0 0) (gt h2 2 l0 6) l1) 2 l0 1) (gt (pt h2 21 (gt h2 2 l0 0) (gt h2 2 l0 6) l1) 2 l0 6) l2 = k8 at hF ⊢
    refine ex_aload_n (q := 35) dX2_add_34 rfl rfl ?_
    refine ex_get (q := 38) (v := vr 23 (gt k8 2 l0 2)) 2 dX2_add_35 rfl fl_X2_18 g1 rfl rfl ?_
    refine ex_aload_n (q := 39) dX2_add_38 rfl rfl ?_
    refine ex_get (q := 42) (v := vi (gt k8 2 l0 6)) 6 dX2_add_39 rfl fl_X2_30 g1 rfl rfl ?_
    refine ex_iload_n (q := 43) dX2_add_42 rfl rfl ?_
    obtain ⟨g9, hF⟩ := zg hF
    obtain ⟨g10, hF⟩ := zg hF
    refine ex_iast (q := 44) dX2_add_43 rfl kd_23 g9 g10.1 g10.2 ?_
    refine ex_aload_n (q := 45) dX2_add_44 rfl rfl ?_
    refine ex_get (q := 48) (v := vr 24 (gt (pt k8 23 (gt k8 2 l0 2) (gt k8 2 l0 6) l3) 2 l0 3)) 3 dX2_add_45 rfl fl_X2_21 g1 rfl rfl ?_
    refine ex_aload_n (q := 49) dX2_add_48 rfl rfl ?_
    refine ex_get (q := 52) (v := vi (gt (pt k8 23 (gt k8 2 l0 2) (gt k8 2 l0 6) l3) 2 l0 6)) 6 dX2_add_49 rfl fl_X2_30 g1 rfl rfl ?_
    refine ex_iload (q := 54) dX2_add_52 rfl rfl ?_
    obtain ⟨g11, hF⟩ := zg hF
    obtain ⟨g12, hF⟩ := zg hF
    refine ex_iast (q := 55) dX2_add_54 rfl kd_24 g11 g12.1 g12.2 ?_
    have hF := zl_e hF
    generalize pt (pt k8 23 (gt k8 2 l0 2) (gt k8 2 l0 6) l3) 24 (gt (pt k8 23 (gt k8 2 l0 2) (gt k8 2 l0 6) l3) 2 l0 3) (gt (pt k8 23 (gt k8 2 l0 2) (gt k8 2 l0 6) l3) 2 l0 6) l4 = k13 at hF ⊢
    refine ex_aload_n (q := 56) dX2_add_55 rfl rfl ?_
    refine ex_get (q := 59) (v := vr 25 (gt k13 2 l0 4)) 4 dX2_add_56 rfl fl_X2_24 g1 rfl rfl ?_
    refine ex_aload_n (q := 60) dX2_add_59 rfl rfl ?_
    refine ex_get (q := 63) (v := vi (gt k13 2 l0 6)) 6 dX2_add_60 rfl fl_X2_30 g1 rfl rfl ?_
    refine ex_iconst (q := 64) dX2_add_63 rfl ⟨by decide, by decide⟩ ?_
    obtain ⟨g14, hF⟩ := zg hF
    obtain ⟨g15, hF⟩ := zg hF
    refine ex_iast (q := 65) dX2_add_64 rfl kd_25 g14 g15.1 g15.2 ?_
    refine ex_aload_n (q := 66) dX2_add_65 rfl rfl ?_
    refine ex_get (q := 69) (v := vr 26 (gt (pt k13 25 (gt k13 2 l0 4) (gt k13 2 l0 6) (-1)) 2 l0 5)) 5 dX2_add_66 rfl fl_X2_27 g1 rfl rfl ?_
    refine ex_aload_n (q := 70) dX2_add_69 rfl rfl ?_
    refine ex_get (q := 73) (v := vi (gt (pt k13 25 (gt k13 2 l0 4) (gt k13 2 l0 6) (-1)) 2 l0 6)) 6 dX2_add_70 rfl fl_X2_30 g1 rfl rfl ?_
    refine ex_iconst (q := 74) dX2_add_73 rfl ⟨by decide, by decide⟩ ?_
    obtain ⟨g16, hF⟩ := zg hF
    obtain ⟨g17, hF⟩ := zg hF
    refine ex_iast (q := 75) dX2_add_74 rfl kd_26 g16 g17.1 g17.2 ?_
    have hF := zl_e hF
    generalize pt (pt k13 25 (gt k13 2 l0 4) (gt k13 2 l0 6) (-1)) 26 (gt (pt k13 25 (gt k13 2 l0 4) (gt k13 2 l0 6) (-1)) 2 l0 5) (gt (pt k13 25 (gt k13 2 l0 4) (gt k13 2 l0 6) (-1)) 2 l0 6) (-1) = k18 at hF ⊢
    refine ex_aload_n (q := 76) dX2_add_75 rfl rfl ?_
    refine ex_dup (q := 77) dX2_add_76 rfl (fun _ z => by cases z) ?_
    refine ex_get (q := 80) (v := vi (gt k18 2 l0 6)) 6 dX2_add_77 rfl fl_X2_30 g1 rfl rfl ?_
    refine ex_iconst (q := 81) dX2_add_80 rfl ⟨by decide, by decide⟩ ?_
    refine ex_iadd (q := 82) dX2_add_81 rfl ?_
    refine ex_put (q := 85) 6 dX2_add_82 rfl fl_X2_30 (by decide) g1 rfl rfl (fun z => by cases z) ?_
    refine ex_aload_n (q := 86) dX2_add_85 rfl rfl ?_
    refine ex_get (q := 89) (v := vi (gt (pt k18 2 l0 6 (wI ((gt k18 2 l0 6) + 1))) 2 l0 6)) 6 dX2_add_86 rfl fl_X2_30 g1 rfl rfl ?_
    refine ex_iconst (q := 90) dX2_add_89 rfl ⟨by decide, by decide⟩ ?_
    refine ex_isub (q := 91) dX2_add_90 rfl ?_
    obtain ⟨rfl, rfl⟩ := zr hF
    exact ex_ret (some (vi (wI ((gt (pt k18 2 l0 6 (wI ((gt k18 2 l0 6) + 1))) 2 l0 6) - 1)))) rfl ⟨dX2_add_91, Or.inl rfl⟩ ⟨rfl, rfl⟩
  · have hF := im c3 hF
    refine ex_iconst (q := 13) dX2_add_12 rfl ⟨by decide, by decide⟩ ?_
    obtain ⟨rfl, rfl⟩ := zr hF
    exact ex_ret (some (vi (-1))) rfl ⟨dX2_add_13, Or.inl rfl⟩ ⟨rfl, rfl⟩
def F_X2_add (l0 l1 l2 l3 l4 : Int) (h : zH) : zO := F_X2_add_0 l0 l1 l2 l3 l4 h
theorem run_X2_add {l0 l1 l2 l3 l4 : Int} {h : zH} {r : Int} {h' : zH} (hF : F_X2_add l0 l1 l2 l3 l4 h = some (r, h')) : Run 1 yX2_add cX2_add 5 (some .int) [vr 2 l0, vi l1, vi l2, vi l3, vi l4] h (some (vi r)) h' := run_of (M := M_X2_add) (by decide) rfl (fun z => by cases z) (Nat.le_of_ble_eq_true rfl) (x_X2_add_0 hF)
abbrev M_X2_suppress : zM := (RX2, (cX2_suppress, (3, (none, false))))
def F_X2_suppress_0 (l0 l1 l2 : Int) (h : zH) : zO := if 0 ≤ l0 then (zb (F_X11_within l1 (gt h 2 l0 6) h) (fun r2 h2 => if r2 = 0 then (some (0, h2)) else (if 0 ≤ gt h2 2 l0 5 then (if 0 ≤ l1 ∧ l1 < 16 then (some (0, (pt h2 26 (gt h2 2 l0 5) l1 l2))) else none) else none))) else none
set_option maxHeartbeats 1000000 in
theorem x_X2_suppress_0 {l0 l1 l2 : Int} {h : zH} {r : Int} {h' : zH} (hF : F_X2_suppress_0 l0 l1 l2 h = some (r, h')) : Ex 1 M_X2_suppress 0 [some (vr 2 l0), some (vi l1), some (vi l2)] [] h (fun r1 h1 => r1 = none ∧ h1 = h') := by
  unfold F_X2_suppress_0 at hF
  refine ex_iload_n (q := 1) dX2_suppress_0 rfl rfl ?_
  refine ex_aload_n (q := 2) dX2_suppress_1 rfl rfl ?_
  obtain ⟨g1, hF⟩ := zg hF
  refine ex_get (q := 5) (v := vi (gt h 2 l0 6)) 6 dX2_suppress_2 rfl fl_X2_30 g1 rfl rfl ?_
  obtain ⟨r2, h2, e2, hF⟩ := zb_some hF
  refine ex_callS (d' := 0) (q := 8) (as := [vi l1, vi (gt h 2 l0 6)]) (st1 := [vi r2]) (r := (some (vi r2))) (h2 := h2) dX2_suppress_5 rfl (run_X11_within e2) mc_X11_within ms_X11_within ml_X2_34 (by decide) rfl rfl (Nat.le_of_ble_eq_true rfl) rfl ?_
  refine ex_if_eq (q := 11) (tgt := 18) dX2_suppress_8 rfl (by decide) (fun c3 => ?_) (fun c3 => ?_)
  · have hF := ip c3 hF
    obtain ⟨rfl, rfl⟩ := zr hF
    exact ex_ret none rfl ⟨dX2_suppress_18, rfl⟩ ⟨rfl, rfl⟩
  · have hF := im c3 hF
    refine ex_aload_n (q := 12) dX2_suppress_11 rfl rfl ?_
    refine ex_get (q := 15) (v := vr 26 (gt h2 2 l0 5)) 5 dX2_suppress_12 rfl fl_X2_27 g1 rfl rfl ?_
    refine ex_iload_n (q := 16) dX2_suppress_15 rfl rfl ?_
    refine ex_iload_n (q := 17) dX2_suppress_16 rfl rfl ?_
    obtain ⟨g4, hF⟩ := zg hF
    obtain ⟨g5, hF⟩ := zg hF
    refine ex_iast (q := 18) dX2_suppress_17 rfl kd_26 g4 g5.1 g5.2 ?_
    obtain ⟨rfl, rfl⟩ := zr hF
    exact ex_ret none rfl ⟨dX2_suppress_18, rfl⟩ ⟨rfl, rfl⟩
def F_X2_suppress (l0 l1 l2 : Int) (h : zH) : zO := F_X2_suppress_0 l0 l1 l2 h
theorem run_X2_suppress {l0 l1 l2 : Int} {h : zH} {r : Int} {h' : zH} (hF : F_X2_suppress l0 l1 l2 h = some (r, h')) : Run 1 yX2_suppress cX2_suppress 3 none [vr 2 l0, vi l1, vi l2] h none h' := run_of (M := M_X2_suppress) (by decide) rfl (fun z => by cases z) (Nat.le_of_ble_eq_true rfl) (x_X2_suppress_0 hF)

abbrev M_X8_failAtEnd : zM := (RX8, (cX8_failAtEnd, (4, (none, false))))
def F_X8_failAtEnd_0 (l0 l1 l2 : Int) (h : zH) : zO := if 0 ≤ l0 then (if 0 ≤ l1 then (if 0 ≤ gt h 8 l0 10 then (zb (F_X2_add (gt h 8 l0 10) 6 (gt h 9 l1 0) (gt h 9 l1 1) l2 h) (fun r3 h3 => if r3 ≠ (-1) then (if gt h3 8 l0 12 ≠ 3 then (some (0, (pt (pt h3 8 l0 12 3) 8 l0 13 r3))) else (if 0 ≤ gt h3 8 l0 10 then (zb (F_X2_suppress (gt h3 8 l0 10) r3 (gt h3 8 l0 13) h3) (fun r7 h7 => some (0, h7))) else none)) else (some (0, (pt h3 8 l0 12 4))))) else none) else none) else none
set_option maxHeartbeats 1000000 in
theorem x_X8_failAtEnd_0 {l0 l1 l2 : Int} {h : zH} {r : Int} {h' : zH} (hF : F_X8_failAtEnd_0 l0 l1 l2 h = some (r, h')) : Ex 2 M_X8_failAtEnd 0 [some (vr 8 l0), some (vr 9 l1), some (vi l2), none] [] h (fun r1 h1 => r1 = none ∧ h1 = h') := by
  unfold F_X8_failAtEnd_0 at hF
  refine ex_aload_n (q := 1) dX8_failAtEnd_0 rfl rfl ?_
  obtain ⟨g1, hF⟩ := zg hF
  refine ex_get (q := 4) (v := vr 2 (gt h 8 l0 10)) 10 dX8_failAtEnd_1 rfl fl_X8_38 g1 rfl rfl ?_
  refine ex_bipush (q := 6) dX8_failAtEnd_4 rfl (by decide) ⟨by decide, by decide⟩ ?_
  refine ex_aload_n (q := 7) dX8_failAtEnd_6 rfl rfl ?_
  obtain ⟨g2, hF⟩ := zg hF
  refine ex_get (q := 10) (v := vi (gt h 9 l1 0)) 0 dX8_failAtEnd_7 rfl fl_X8_377 g2 rfl rfl ?_
  refine ex_aload_n (q := 11) dX8_failAtEnd_10 rfl rfl ?_
  refine ex_get (q := 14) (v := vi (gt h 9 l1 1)) 1 dX8_failAtEnd_11 rfl fl_X8_380 g2 rfl rfl ?_
  refine ex_iload_n (q := 15) dX8_failAtEnd_14 rfl rfl ?_
  obtain ⟨g4, hF⟩ := zg hF
  obtain ⟨r3, h3, e3, hF⟩ := zb_some hF
  refine ex_callV (d' := 1) (q := 18) (as := [vi 6, vi (gt h 9 l1 0), vi (gt h 9 l1 1), vi l2]) (st1 := [vi r3]) (r := (some (vi r3))) (h2 := h3) dX8_failAtEnd_15 rfl (run_X2_add e3) mc_X2_add mv_X2_add ml_X8_283 (by decide) g4 rfl rfl (Nat.le_of_ble_eq_true rfl) rfl ?_
  refine ex_istore_n (q := 19) (lo' := [some (vr 8 l0), some (vr 9 l1), some (vi l2), some (vi r3)]) dX8_failAtEnd_18 rfl (by decide) rfl rfl ?_
  refine ex_iload_n (q := 20) dX8_failAtEnd_19 rfl rfl ?_
  refine ex_iconst (q := 21) dX8_failAtEnd_20 rfl ⟨by decide, by decide⟩ ?_
  refine ex_icmp_ne (q := 24) (tgt := 32) dX8_failAtEnd_21 rfl (by decide) (fun c5 => ?_) (fun c5 => ?_)
  · have hF := ip c5 hF
    refine ex_aload_n (q := 33) dX8_failAtEnd_32 rfl rfl ?_
    refine ex_get (q := 36) (v := vi (gt h3 8 l0 12)) 12 dX8_failAtEnd_33 rfl fl_X8_97 g1 rfl rfl ?_
    refine ex_iconst (q := 37) dX8_failAtEnd_36 rfl ⟨by decide, by decide⟩ ?_
    refine ex_icmp_ne (q := 40) (tgt := 55) dX8_failAtEnd_37 rfl (by decide) (fun c6 => ?_) (fun c6 => ?_)
    · have hF := ip c6 hF
      refine ex_aload_n (q := 56) dX8_failAtEnd_55 rfl rfl ?_
      refine ex_iconst (q := 57) dX8_failAtEnd_56 rfl ⟨by decide, by decide⟩ ?_
      refine ex_put (q := 60) 12 dX8_failAtEnd_57 rfl fl_X8_97 (by decide) g1 rfl rfl (fun z => by cases z) ?_
      refine ex_aload_n (q := 61) dX8_failAtEnd_60 rfl rfl ?_
      refine ex_iload_n (q := 62) dX8_failAtEnd_61 rfl rfl ?_
      refine ex_put (q := 65) 13 dX8_failAtEnd_62 rfl fl_X8_42 (by decide) g1 rfl rfl (fun z => by cases z) ?_
      obtain ⟨rfl, rfl⟩ := zr hF
      exact ex_ret none rfl ⟨dX8_failAtEnd_65, rfl⟩ ⟨rfl, rfl⟩
    · have hF := im c6 hF
      refine ex_aload_n (q := 41) dX8_failAtEnd_40 rfl rfl ?_
      refine ex_get (q := 44) (v := vr 2 (gt h3 8 l0 10)) 10 dX8_failAtEnd_41 rfl fl_X8_38 g1 rfl rfl ?_
      refine ex_iload_n (q := 45) dX8_failAtEnd_44 rfl rfl ?_
      refine ex_aload_n (q := 46) dX8_failAtEnd_45 rfl rfl ?_
      refine ex_get (q := 49) (v := vi (gt h3 8 l0 13)) 13 dX8_failAtEnd_46 rfl fl_X8_42 g1 rfl rfl ?_
      obtain ⟨g8, hF⟩ := zg hF
      obtain ⟨r7, h7, e7, hF⟩ := zb_some hF
      refine ex_callV (d' := 1) (q := 52) (as := [vi r3, vi (gt h3 8 l0 13)]) (st1 := []) (r := none) (h2 := h7) dX8_failAtEnd_49 rfl (run_X2_suppress e7) mc_X2_suppress mv_X2_suppress ml_X8_367 (by decide) g8 rfl rfl (Nat.le_of_ble_eq_true rfl) rfl ?_
      refine ex_goto (q := 65) dX8_failAtEnd_52 (by decide) ?_
      obtain ⟨rfl, rfl⟩ := zr hF
      exact ex_ret none rfl ⟨dX8_failAtEnd_65, rfl⟩ ⟨rfl, rfl⟩
  · have hF := im c5 hF
    refine ex_aload_n (q := 25) dX8_failAtEnd_24 rfl rfl ?_
    refine ex_iconst (q := 26) dX8_failAtEnd_25 rfl ⟨by decide, by decide⟩ ?_
    refine ex_put (q := 29) 12 dX8_failAtEnd_26 rfl fl_X8_97 (by decide) g1 rfl rfl (fun z => by cases z) ?_
    refine ex_goto (q := 65) dX8_failAtEnd_29 (by decide) ?_
    obtain ⟨rfl, rfl⟩ := zr hF
    exact ex_ret none rfl ⟨dX8_failAtEnd_65, rfl⟩ ⟨rfl, rfl⟩
def F_X8_failAtEnd (l0 l1 l2 : Int) (h : zH) : zO := F_X8_failAtEnd_0 l0 l1 l2 h
theorem run_X8_failAtEnd {l0 l1 l2 : Int} {h : zH} {r : Int} {h' : zH} (hF : F_X8_failAtEnd l0 l1 l2 h = some (r, h')) : Run 2 yX8_failAtEnd cX8_failAtEnd 4 none [vr 8 l0, vr 9 l1, vi l2] h none h' := run_of (M := M_X8_failAtEnd) (by decide) rfl (fun z => by cases z) (Nat.le_of_ble_eq_true rfl) (x_X8_failAtEnd_0 hF)
abbrev M_X8_endInnermost : zM := (RX8, (cX8_endInnermost, (4, (none, false))))
def F_X8_endInnermost_63 (l0 : Int) (h : zH) : zO := if 0 ≤ l0 then (if gt h 8 l0 12 = 4 then (some (0, h)) else (if gt h 8 l0 7 ≤ 0 then (some (0, h)) else (some (0, (pt (pt h 8 l0 7 (wI ((gt h 8 l0 7) - 1))) 8 l0 15 (wI ((gt (pt h 8 l0 7 (wI ((gt h 8 l0 7) - 1))) 8 l0 15) + 1))))))) else none
set_option maxHeartbeats 1000000 in
theorem x_X8_endInnermost_63 {l0 : Int} {h : zH} {r : Int} {h' : zH} (hF : F_X8_endInnermost_63 l0 h = some (r, h')) : Ex 3 M_X8_endInnermost 63 [some (vr 8 l0), none, none, none] [] h (fun r1 h1 => r1 = none ∧ h1 = h') := by
  unfold F_X8_endInnermost_63 at hF
  refine ex_aload_n (q := 64) dX8_endInnermost_63 rfl rfl ?_
  obtain ⟨g1, hF⟩ := zg hF
  refine ex_get (q := 67) (v := vi (gt h 8 l0 12)) 12 dX8_endInnermost_64 rfl fl_X8_97 g1 rfl rfl ?_
  refine ex_iconst (q := 68) dX8_endInnermost_67 rfl ⟨by decide, by decide⟩ ?_
  refine ex_icmp_eq (q := 71) (tgt := 98) dX8_endInnermost_68 rfl (by decide) (fun c2 => ?_) (fun c2 => ?_)
  · have hF := ip c2 hF
    obtain ⟨rfl, rfl⟩ := zr hF
    exact ex_ret none rfl ⟨dX8_endInnermost_98, rfl⟩ ⟨rfl, rfl⟩
  · have hF := im c2 hF
    refine ex_aload_n (q := 72) dX8_endInnermost_71 rfl rfl ?_
    refine ex_get (q := 75) (v := vi (gt h 8 l0 7)) 7 dX8_endInnermost_72 rfl fl_X8_135 g1 rfl rfl ?_
    refine ex_if_le (q := 78) (tgt := 98) dX8_endInnermost_75 rfl (by decide) (fun c3 => ?_) (fun c3 => ?_)
    · have hF := ip c3 hF
      obtain ⟨rfl, rfl⟩ := zr hF
      exact ex_ret none rfl ⟨dX8_endInnermost_98, rfl⟩ ⟨rfl, rfl⟩
    · have hF := im c3 hF
      refine ex_aload_n (q := 79) dX8_endInnermost_78 rfl rfl ?_
      refine ex_dup (q := 80) dX8_endInnermost_79 rfl (fun _ z => by cases z) ?_
      refine ex_get (q := 83) (v := vi (gt h 8 l0 7)) 7 dX8_endInnermost_80 rfl fl_X8_135 g1 rfl rfl ?_
      refine ex_iconst (q := 84) dX8_endInnermost_83 rfl ⟨by decide, by decide⟩ ?_
      refine ex_isub (q := 85) dX8_endInnermost_84 rfl ?_
      refine ex_put (q := 88) 7 dX8_endInnermost_85 rfl fl_X8_135 (by decide) g1 rfl rfl (fun z => by cases z) ?_
      refine ex_aload_n (q := 89) dX8_endInnermost_88 rfl rfl ?_
      refine ex_dup (q := 90) dX8_endInnermost_89 rfl (fun _ z => by cases z) ?_
      refine ex_get (q := 93) (v := vi (gt (pt h 8 l0 7 (wI ((gt h 8 l0 7) - 1))) 8 l0 15)) 15 dX8_endInnermost_90 rfl fl_X8_75 g1 rfl rfl ?_
      refine ex_iconst (q := 94) dX8_endInnermost_93 rfl ⟨by decide, by decide⟩ ?_
      refine ex_iadd (q := 95) dX8_endInnermost_94 rfl ?_
      refine ex_put (q := 98) 15 dX8_endInnermost_95 rfl fl_X8_75 (by decide) g1 rfl rfl (fun z => by cases z) ?_
      obtain ⟨rfl, rfl⟩ := zr hF
      exact ex_ret none rfl ⟨dX8_endInnermost_98, rfl⟩ ⟨rfl, rfl⟩
def F_X8_endInnermost_12b (ag12 : Int → Int → Int → zH → zO) (l0 l1 l2 : Int) (h : zH) : zO := if 160 ≤ l2 then (F_X8_endInnermost_63 l0 h) else (if 0 ≤ l1 then (if gt h 9 l1 2 = -1 then (F_X8_endInnermost_63 l0 h) else (if 0 ≤ l0 then (if gt h 8 l0 12 = 4 then (F_X8_endInnermost_63 l0 h) else (zb (F_X8_giveUp l0 (gt h 9 l1 2) 1 h) (fun r6 h6 => if r6 = 0 then (ag12 l0 l1 (wI (l2 + 1)) h6) else (zb (F_X8_partOf (gt h 9 l1 2) h6) (fun r8 h8 => zb (F_X8_failAtEnd l0 l1 r8 h8) (fun r9 h9 => ag12 l0 l1 (wI (l2 + 1)) h9)))))) else none)) else none)
set_option maxHeartbeats 1000000 in
theorem x_X8_endInnermost_12b {ag12 : Int → Int → Int → zH → zO} (hag12 : ∀ (l0 l1 l2 : Int) (h : zH) (r : Int) (h' : zH), ag12 l0 l1 l2 h = some (r, h') → Ex 3 M_X8_endInnermost 12 [some (vr 8 l0), some (vr 9 l1), some (vi l2), none] [] h (fun r1 h1 => r1 = none ∧ h1 = h')) {l0 l1 l2 : Int} {h : zH} {r : Int} {h' : zH} (hF : F_X8_endInnermost_12b ag12 l0 l1 l2 h = some (r, h')) : Ex 3 M_X8_endInnermost 12 [some (vr 8 l0), some (vr 9 l1), some (vi l2), none] [] h (fun r1 h1 => r1 = none ∧ h1 = h') := by
  unfold F_X8_endInnermost_12b at hF
  refine ex_iload_n (q := 13) dX8_endInnermost_12 rfl rfl ?_
  refine ex_sipush (q := 16) dX8_endInnermost_13 rfl (by decide) ⟨by decide, by decide⟩ ?_
  refine ex_icmp_ge (q := 19) (tgt := 63) dX8_endInnermost_16 rfl (by decide) (fun c1 => ?_) (fun c1 => ?_)
  · have hF := ip c1 hF
    exact ex_forget (lo' := [some (vr 8 l0), none, none, none]) ⟨Or.inr rfl, Or.inl rfl, Or.inl rfl, Or.inl rfl, trivial⟩ (x_X8_endInnermost_63 hF)
  · have hF := im c1 hF
    refine ex_aload_n (q := 20) dX8_endInnermost_19 rfl rfl ?_
    obtain ⟨g2, hF⟩ := zg hF
    refine ex_get (q := 23) (v := vr 4 (gt h 9 l1 2)) 2 dX8_endInnermost_20 rfl fl_X8_370 g2 rfl rfl ?_
    refine ex_ifnull (q := 26) (tgt := 63) dX8_endInnermost_23 rfl (by decide) (fun c3 => ?_) (fun c3 => ?_)
    · have hF := ip c3 hF
      exact ex_forget (lo' := [some (vr 8 l0), none, none, none]) ⟨Or.inr rfl, Or.inl rfl, Or.inl rfl, Or.inl rfl, trivial⟩ (x_X8_endInnermost_63 hF)
    · have hF := im c3 hF
      refine ex_aload_n (q := 27) dX8_endInnermost_26 rfl rfl ?_
      obtain ⟨g4, hF⟩ := zg hF
      refine ex_get (q := 30) (v := vi (gt h 8 l0 12)) 12 dX8_endInnermost_27 rfl fl_X8_97 g4 rfl rfl ?_
      refine ex_iconst (q := 31) dX8_endInnermost_30 rfl ⟨by decide, by decide⟩ ?_
      refine ex_icmp_eq (q := 34) (tgt := 63) dX8_endInnermost_31 rfl (by decide) (fun c5 => ?_) (fun c5 => ?_)
      · have hF := ip c5 hF
        exact ex_forget (lo' := [some (vr 8 l0), none, none, none]) ⟨Or.inr rfl, Or.inl rfl, Or.inl rfl, Or.inl rfl, trivial⟩ (x_X8_endInnermost_63 hF)
      · have hF := im c5 hF
        refine ex_aload_n (q := 35) dX8_endInnermost_34 rfl rfl ?_
        refine ex_get (q := 38) (v := vr 4 (gt h 9 l1 2)) 2 dX8_endInnermost_35 rfl fl_X8_370 g2 rfl rfl ?_
        refine ex_astore_n (q := 39) (lo' := [some (vr 8 l0), some (vr 9 l1), some (vi l2), some (vr 4 (gt h 9 l1 2))]) dX8_endInnermost_38 rfl (by decide) rfl rfl ?_
        refine ex_aload_n (q := 40) dX8_endInnermost_39 rfl rfl ?_
        refine ex_aload_n (q := 41) dX8_endInnermost_40 rfl rfl ?_
        refine ex_iconst (q := 42) dX8_endInnermost_41 rfl ⟨by decide, by decide⟩ ?_
        obtain ⟨r6, h6, e6, hF⟩ := zb_some hF
        refine ex_callV (d' := 2) (q := 45) (as := [vr 4 (gt h 9 l1 2), vi 1]) (st1 := [vi r6]) (r := (some (vi r6))) (h2 := h6) dX8_endInnermost_42 rfl (run_X8_giveUp e6) mc_X8_giveUp mv_X8_giveUp ml_X8_259 (by decide) g4 rfl rfl (Nat.le_of_ble_eq_true rfl) rfl ?_
        refine ex_if_eq (q := 48) (tgt := 57) dX8_endInnermost_45 rfl (by decide) (fun c7 => ?_) (fun c7 => ?_)
        · have hF := ip c7 hF
          refine ex_iinc (q := 60) (lo' := [some (vr 8 l0), some (vr 9 l1), some (vi (wI (l2 + 1))), some (vr 4 (gt h 9 l1 2))]) dX8_endInnermost_57 rfl rfl (by decide) rfl rfl ?_
          refine ex_goto (q := 12) dX8_endInnermost_60 (by decide) ?_
          exact ex_forget (lo' := [some (vr 8 l0), some (vr 9 l1), some (vi (wI (l2 + 1))), none]) ⟨Or.inr rfl, Or.inr rfl, Or.inr rfl, Or.inl rfl, trivial⟩ (hag12 _ _ _ _ _ _ hF)
        · have hF := im c7 hF
          refine ex_aload_n (q := 49) dX8_endInnermost_48 rfl rfl ?_
          refine ex_aload_n (q := 50) dX8_endInnermost_49 rfl rfl ?_
          refine ex_aload_n (q := 51) dX8_endInnermost_50 rfl rfl ?_
          obtain ⟨r8, h8, e8, hF⟩ := zb_some hF
          refine ex_callS (d' := 0) (q := 54) (as := [vr 4 (gt h 9 l1 2)]) (st1 := [vi r8, vr 9 l1, vr 8 l0]) (r := (some (vi r8))) (h2 := h8) dX8_endInnermost_51 rfl (run_X8_partOf e8) mc_X8_partOf ms_X8_partOf ml_X8_246 (by decide) rfl rfl (Nat.le_of_ble_eq_true rfl) rfl ?_
          obtain ⟨r9, h9, e9, hF⟩ := zb_some hF
          refine ex_callV (d' := 2) (q := 57) (as := [vr 9 l1, vi r8]) (st1 := []) (r := none) (h2 := h9) dX8_endInnermost_54 rfl (run_X8_failAtEnd e9) mc_X8_failAtEnd mv_X8_failAtEnd ml_X8_373 (by decide) g4 rfl rfl (Nat.le_of_ble_eq_true rfl) rfl ?_
          refine ex_iinc (q := 60) (lo' := [some (vr 8 l0), some (vr 9 l1), some (vi (wI (l2 + 1))), some (vr 4 (gt h 9 l1 2))]) dX8_endInnermost_57 rfl rfl (by decide) rfl rfl ?_
          refine ex_goto (q := 12) dX8_endInnermost_60 (by decide) ?_
          exact ex_forget (lo' := [some (vr 8 l0), some (vr 9 l1), some (vi (wI (l2 + 1))), none]) ⟨Or.inr rfl, Or.inr rfl, Or.inr rfl, Or.inl rfl, trivial⟩ (hag12 _ _ _ _ _ _ hF)
def F_X8_endInnermost_12 : Nat → Int → Int → Int → zH → zO
  | 0, _, _, _, _ => none
  | n + 1, l0, l1, l2, h => F_X8_endInnermost_12b (F_X8_endInnermost_12 n) l0 l1 l2 h
theorem x_X8_endInnermost_12 : ∀ (n : Nat) (l0 l1 l2 : Int) (h : zH) (r : Int) (h' : zH), F_X8_endInnermost_12 n l0 l1 l2 h = some (r, h') → Ex 3 M_X8_endInnermost 12 [some (vr 8 l0), some (vr 9 l1), some (vi l2), none] [] h (fun r1 h1 => r1 = none ∧ h1 = h')
  | 0, _, _, _, _, _, _, hF => by cases hF
  | n + 1, _, _, _, _, _, _, hF => x_X8_endInnermost_12b (x_X8_endInnermost_12 n) hF
def F_X8_endInnermost_0 (l0 : Int) (h : zH) : zO := if 0 ≤ l0 then (if 0 ≤ gt h 8 l0 6 then (if 0 ≤ gt h 8 l0 7 ∧ gt h 8 l0 7 < 91 then (F_X8_endInnermost_12 zF l0 (gt h 41 (gt h 8 l0 6) (gt h 8 l0 7)) 0 h) else none) else none) else none
set_option maxHeartbeats 1000000 in
theorem x_X8_endInnermost_0 {l0 : Int} {h : zH} {r : Int} {h' : zH} (hF : F_X8_endInnermost_0 l0 h = some (r, h')) : Ex 3 M_X8_endInnermost 0 [some (vr 8 l0), none, none, none] [] h (fun r1 h1 => r1 = none ∧ h1 = h') := by
  unfold F_X8_endInnermost_0 at hF
  refine ex_aload_n (q := 1) dX8_endInnermost_0 rfl rfl ?_
  obtain ⟨g1, hF⟩ := zg hF
  refine ex_get (q := 4) (v := vr 41 (gt h 8 l0 6)) 6 dX8_endInnermost_1 rfl fl_X8_25 g1 rfl rfl ?_
  refine ex_aload_n (q := 5) dX8_endInnermost_4 rfl rfl ?_
  refine ex_get (q := 8) (v := vi (gt h 8 l0 7)) 7 dX8_endInnermost_5 rfl fl_X8_135 g1 rfl rfl ?_
  obtain ⟨g2, hF⟩ := zg hF
  obtain ⟨g3, hF⟩ := zg hF
  refine ex_aald (q := 9) 9 dX8_endInnermost_8 rfl kd_41 (by decide) g2 g3.1 g3.2 ?_
  refine ex_astore_n (q := 10) (lo' := [some (vr 8 l0), some (vr 9 (gt h 41 (gt h 8 l0 6) (gt h 8 l0 7))), none, none]) dX8_endInnermost_9 rfl (by decide) rfl rfl ?_
  refine ex_iconst (q := 11) dX8_endInnermost_10 rfl ⟨by decide, by decide⟩ ?_
  refine ex_istore_n (q := 12) (lo' := [some (vr 8 l0), some (vr 9 (gt h 41 (gt h 8 l0 6) (gt h 8 l0 7))), some (vi 0), none]) dX8_endInnermost_11 rfl (by decide) rfl rfl ?_
  exact ex_forget (lo' := [some (vr 8 l0), some (vr 9 (gt h 41 (gt h 8 l0 6) (gt h 8 l0 7))), some (vi 0), none]) ⟨Or.inr rfl, Or.inr rfl, Or.inr rfl, Or.inl rfl, trivial⟩ (x_X8_endInnermost_12 _ _ _ _ _ _ _ hF)
def F_X8_endInnermost (l0 : Int) (h : zH) : zO := F_X8_endInnermost_0 l0 h
theorem run_X8_endInnermost {l0 : Int} {h : zH} {r : Int} {h' : zH} (hF : F_X8_endInnermost l0 h = some (r, h')) : Run 3 yX8_endInnermost cX8_endInnermost 4 none [vr 8 l0] h none h' := run_of (M := M_X8_endInnermost) (by decide) rfl (fun z => by cases z) (Nat.le_of_ble_eq_true rfl) (x_X8_endInnermost_0 hF)
abbrev M_X8_pop : zM := (RX8, (cX8_pop, (1, (none, false))))
def F_X8_pop_0 (l0 : Int) (h : zH) : zO := if 0 ≤ l0 then (if gt h 8 l0 5 ≤ 0 then (some (0, h)) else (some (0, (pt h 8 l0 5 (wI ((gt h 8 l0 5) - 1)))))) else none
set_option maxHeartbeats 1000000 in
theorem x_X8_pop_0 {l0 : Int} {h : zH} {r : Int} {h' : zH} (hF : F_X8_pop_0 l0 h = some (r, h')) : Ex 0 M_X8_pop 0 [some (vr 8 l0)] [] h (fun r1 h1 => r1 = none ∧ h1 = h') := by
  unfold F_X8_pop_0 at hF
  refine ex_aload_n (q := 1) dX8_pop_0 rfl rfl ?_
  obtain ⟨g1, hF⟩ := zg hF
  refine ex_get (q := 4) (v := vi (gt h 8 l0 5)) 5 dX8_pop_1 rfl fl_X8_132 g1 rfl rfl ?_
  refine ex_if_le (q := 7) (tgt := 17) dX8_pop_4 rfl (by decide) (fun c2 => ?_) (fun c2 => ?_)
  · have hF := ip c2 hF
    obtain ⟨rfl, rfl⟩ := zr hF
    exact ex_ret none rfl ⟨dX8_pop_17, rfl⟩ ⟨rfl, rfl⟩
  · have hF := im c2 hF
    refine ex_aload_n (q := 8) dX8_pop_7 rfl rfl ?_
    refine ex_dup (q := 9) dX8_pop_8 rfl (fun _ z => by cases z) ?_
    refine ex_get (q := 12) (v := vi (gt h 8 l0 5)) 5 dX8_pop_9 rfl fl_X8_132 g1 rfl rfl ?_
    refine ex_iconst (q := 13) dX8_pop_12 rfl ⟨by decide, by decide⟩ ?_
    refine ex_isub (q := 14) dX8_pop_13 rfl ?_
    refine ex_put (q := 17) 5 dX8_pop_14 rfl fl_X8_132 (by decide) g1 rfl rfl (fun z => by cases z) ?_
    obtain ⟨rfl, rfl⟩ := zr hF
    exact ex_ret none rfl ⟨dX8_pop_17, rfl⟩ ⟨rfl, rfl⟩
def F_X8_pop (l0 : Int) (h : zH) : zO := F_X8_pop_0 l0 h
theorem run_X8_pop {l0 : Int} {h : zH} {r : Int} {h' : zH} (hF : F_X8_pop l0 h = some (r, h')) : Run 0 yX8_pop cX8_pop 1 none [vr 8 l0] h none h' := run_of (M := M_X8_pop) (by decide) rfl (fun z => by cases z) (Nat.le_of_ble_eq_true rfl) (x_X8_pop_0 hF)
abbrev M_X8_endScopeBlock : zM := (RX8, (cX8_endScopeBlock, (2, (none, false))))
def F_X8_endScopeBlock_0 (l0 l1 : Int) (h : zH) : zO := if 0 ≤ l0 then (zb (F_X8_endInnermost l0 h) (fun r1 h1 => zb (F_X8_pop l0 h1) (fun r3 h3 => if gt h3 8 l0 12 ≠ 0 then (some (0, h3)) else (if 0 ≤ l1 then (some (0, (pt h3 1 l1 2 (wI ((gt h3 1 l1 2) + 1))))) else none)))) else none
set_option maxHeartbeats 1000000 in
theorem x_X8_endScopeBlock_0 {l0 l1 : Int} {h : zH} {r : Int} {h' : zH} (hF : F_X8_endScopeBlock_0 l0 l1 h = some (r, h')) : Ex 4 M_X8_endScopeBlock 0 [some (vr 8 l0), some (vr 1 l1)] [] h (fun r1 h1 => r1 = none ∧ h1 = h') := by
  unfold F_X8_endScopeBlock_0 at hF
  refine ex_aload_n (q := 1) dX8_endScopeBlock_0 rfl rfl ?_
  obtain ⟨g2, hF⟩ := zg hF
  obtain ⟨r1, h1, e1, hF⟩ := zb_some hF
  refine ex_callV (d' := 3) (q := 4) (as := []) (st1 := []) (r := none) (h2 := h1) dX8_endScopeBlock_1 rfl (run_X8_endInnermost e1) mc_X8_endInnermost mv_X8_endInnermost ml_X8_316 (by decide) g2 rfl rfl (Nat.le_of_ble_eq_true rfl) rfl ?_
  refine ex_aload_n (q := 5) dX8_endScopeBlock_4 rfl rfl ?_
  obtain ⟨r3, h3, e3, hF⟩ := zb_some hF
  refine ex_callV (d' := 0) (q := 8) (as := []) (st1 := []) (r := none) (h2 := h3) dX8_endScopeBlock_5 rfl (run_X8_pop e3) mc_X8_pop mv_X8_pop ml_X8_319 (by decide) g2 rfl rfl (Nat.le_of_ble_eq_true rfl) rfl ?_
  refine ex_aload_n (q := 9) dX8_endScopeBlock_8 rfl rfl ?_
  refine ex_get (q := 12) (v := vi (gt h3 8 l0 12)) 12 dX8_endScopeBlock_9 rfl fl_X8_97 g2 rfl rfl ?_
  refine ex_if_ne (q := 15) (tgt := 25) dX8_endScopeBlock_12 rfl (by decide) (fun c4 => ?_) (fun c4 => ?_)
  · have hF := ip c4 hF
    obtain ⟨rfl, rfl⟩ := zr hF
    exact ex_ret none rfl ⟨dX8_endScopeBlock_25, rfl⟩ ⟨rfl, rfl⟩
  · have hF := im c4 hF
    refine ex_aload_n (q := 16) dX8_endScopeBlock_15 rfl rfl ?_
    refine ex_dup (q := 17) dX8_endScopeBlock_16 rfl (fun _ z => by cases z) ?_
    obtain ⟨g5, hF⟩ := zg hF
    refine ex_get (q := 20) (v := vi (gt h3 1 l1 2)) 2 dX8_endScopeBlock_17 rfl fl_X8_104 g5 rfl rfl ?_
    refine ex_iconst (q := 21) dX8_endScopeBlock_20 rfl ⟨by decide, by decide⟩ ?_
    refine ex_iadd (q := 22) dX8_endScopeBlock_21 rfl ?_
    refine ex_put (q := 25) 2 dX8_endScopeBlock_22 rfl fl_X8_104 (by decide) g5 rfl rfl (fun z => by cases z) ?_
    obtain ⟨rfl, rfl⟩ := zr hF
    exact ex_ret none rfl ⟨dX8_endScopeBlock_25, rfl⟩ ⟨rfl, rfl⟩
def F_X8_endScopeBlock (l0 l1 : Int) (h : zH) : zO := F_X8_endScopeBlock_0 l0 l1 h
theorem run_X8_endScopeBlock {l0 l1 : Int} {h : zH} {r : Int} {h' : zH} (hF : F_X8_endScopeBlock l0 l1 h = some (r, h')) : Run 4 yX8_endScopeBlock cX8_endScopeBlock 2 none [vr 8 l0, vr 1 l1] h none h' := run_of (M := M_X8_endScopeBlock) (by decide) rfl (fun z => by cases z) (Nat.le_of_ble_eq_true rfl) (x_X8_endScopeBlock_0 hF)
abbrev M_X10_nextOf : zM := (RX10, (cX10_nextOf, (2, ((some .int), false))))
def F_X10_nextOf_0 (l0 l1 : Int) (h : zH) : zO := if 0 ≤ l0 then (zb (F_X11_within l1 (gt h 10 l0 4) h) (fun r2 h2 => if r2 = 0 then (some ((-1), h2)) else (if 0 ≤ gt h2 10 l0 3 then (if 0 ≤ l1 ∧ l1 < 40 then (some (gt h2 46 (gt h2 10 l0 3) l1, h2)) else none) else none))) else none
set_option maxHeartbeats 1000000 in
theorem x_X10_nextOf_0 {l0 l1 : Int} {h : zH} {r : Int} {h' : zH} (hF : F_X10_nextOf_0 l0 l1 h = some (r, h')) : Ex 1 M_X10_nextOf 0 [some (vr 10 l0), some (vi l1)] [] h (fun r1 h1 => r1 = some (vi r) ∧ h1 = h') := by
  unfold F_X10_nextOf_0 at hF
  refine ex_iload_n (q := 1) dX10_nextOf_0 rfl rfl ?_
  refine ex_aload_n (q := 2) dX10_nextOf_1 rfl rfl ?_
  obtain ⟨g1, hF⟩ := zg hF
  refine ex_get (q := 5) (v := vi (gt h 10 l0 4)) 4 dX10_nextOf_2 rfl fl_X10_30 g1 rfl rfl ?_
  obtain ⟨r2, h2, e2, hF⟩ := zb_some hF
  refine ex_callS (d' := 0) (q := 8) (as := [vi l1, vi (gt h 10 l0 4)]) (st1 := [vi r2]) (r := (some (vi r2))) (h2 := h2) dX10_nextOf_5 rfl (run_X11_within e2) mc_X11_within ms_X11_within ml_X10_34 (by decide) rfl rfl (Nat.le_of_ble_eq_true rfl) rfl ?_
  refine ex_if_eq (q := 11) (tgt := 20) dX10_nextOf_8 rfl (by decide) (fun c3 => ?_) (fun c3 => ?_)
  · have hF := ip c3 hF
    refine ex_iconst (q := 21) dX10_nextOf_20 rfl ⟨by decide, by decide⟩ ?_
    obtain ⟨rfl, rfl⟩ := zr hF
    exact ex_ret (some (vi (-1))) rfl ⟨dX10_nextOf_21, Or.inl rfl⟩ ⟨rfl, rfl⟩
  · have hF := im c3 hF
    refine ex_aload_n (q := 12) dX10_nextOf_11 rfl rfl ?_
    refine ex_get (q := 15) (v := vr 46 (gt h2 10 l0 3)) 3 dX10_nextOf_12 rfl fl_X10_21 g1 rfl rfl ?_
    refine ex_iload_n (q := 16) dX10_nextOf_15 rfl rfl ?_
    obtain ⟨g4, hF⟩ := zg hF
    obtain ⟨g5, hF⟩ := zg hF
    refine ex_iald (q := 17) dX10_nextOf_16 rfl kd_46 g4 g5.1 g5.2 ?_
    refine ex_goto (q := 21) dX10_nextOf_17 (by decide) ?_
    obtain ⟨rfl, rfl⟩ := zr hF
    exact ex_ret (some (vi (gt h2 46 (gt h2 10 l0 3) l1))) rfl ⟨dX10_nextOf_21, Or.inl rfl⟩ ⟨rfl, rfl⟩
def F_X10_nextOf (l0 l1 : Int) (h : zH) : zO := F_X10_nextOf_0 l0 l1 h
theorem run_X10_nextOf {l0 l1 : Int} {h : zH} {r : Int} {h' : zH} (hF : F_X10_nextOf l0 l1 h = some (r, h')) : Run 1 yX10_nextOf cX10_nextOf 2 (some .int) [vr 10 l0, vi l1] h (some (vi r)) h' := run_of (M := M_X10_nextOf) (by decide) rfl (fun z => by cases z) (Nat.le_of_ble_eq_true rfl) (x_X10_nextOf_0 hF)
abbrev M_X8_leaveLoop : zM := (RX8, (cX8_leaveLoop, (3, (none, false))))
def F_X8_leaveLoop_0 (l0 l1 l2 : Int) (h : zH) : zO := if 0 ≤ l0 then (zb (F_X8_pop l0 h) (fun r1 h1 => if gt h1 8 l0 12 ≠ 2 then (some (0, h1)) else (if 0 ≤ l1 then (if 0 ≤ l2 then (if 0 ≤ gt (pt h1 8 l0 12 0) 1 l1 0 then (zb (F_X10_nextOf (gt (pt h1 8 l0 12 0) 1 l1 0) (gt (pt h1 8 l0 12 0) 0 l2 1) (pt h1 8 l0 12 0)) (fun r6 h6 => some (0, (pt h6 1 l1 2 (wI (r6 + 1)))))) else none) else none) else none))) else none
set_option maxHeartbeats 1000000 in
theorem x_X8_leaveLoop_0 {l0 l1 l2 : Int} {h : zH} {r : Int} {h' : zH} (hF : F_X8_leaveLoop_0 l0 l1 l2 h = some (r, h')) : Ex 2 M_X8_leaveLoop 0 [some (vr 8 l0), some (vr 1 l1), some (vr 0 l2)] [] h (fun r1 h1 => r1 = none ∧ h1 = h') := by
  unfold F_X8_leaveLoop_0 at hF
  refine ex_aload_n (q := 1) dX8_leaveLoop_0 rfl rfl ?_
  obtain ⟨g2, hF⟩ := zg hF
  obtain ⟨r1, h1, e1, hF⟩ := zb_some hF
  refine ex_callV (d' := 0) (q := 4) (as := []) (st1 := []) (r := none) (h2 := h1) dX8_leaveLoop_1 rfl (run_X8_pop e1) mc_X8_pop mv_X8_pop ml_X8_319 (by decide) g2 rfl rfl (Nat.le_of_ble_eq_true rfl) rfl ?_
  refine ex_aload_n (q := 5) dX8_leaveLoop_4 rfl rfl ?_
  refine ex_get (q := 8) (v := vi (gt h1 8 l0 12)) 12 dX8_leaveLoop_5 rfl fl_X8_97 g2 rfl rfl ?_
  refine ex_iconst (q := 9) dX8_leaveLoop_8 rfl ⟨by decide, by decide⟩ ?_
  refine ex_icmp_ne (q := 12) (tgt := 34) dX8_leaveLoop_9 rfl (by decide) (fun c3 => ?_) (fun c3 => ?_)
  · have hF := ip c3 hF
    obtain ⟨rfl, rfl⟩ := zr hF
    exact ex_ret none rfl ⟨dX8_leaveLoop_34, rfl⟩ ⟨rfl, rfl⟩
  · have hF := im c3 hF
    refine ex_aload_n (q := 13) dX8_leaveLoop_12 rfl rfl ?_
    refine ex_iconst (q := 14) dX8_leaveLoop_13 rfl ⟨by decide, by decide⟩ ?_
    refine ex_put (q := 17) 12 dX8_leaveLoop_14 rfl fl_X8_97 (by decide) g2 rfl rfl (fun z => by cases z) ?_
    refine ex_aload_n (q := 18) dX8_leaveLoop_17 rfl rfl ?_
    refine ex_aload_n (q := 19) dX8_leaveLoop_18 rfl rfl ?_
    obtain ⟨g4, hF⟩ := zg hF
    refine ex_get (q := 22) (v := vr 10 (gt (pt h1 8 l0 12 0) 1 l1 0)) 0 dX8_leaveLoop_19 rfl fl_X8_100 g4 rfl rfl ?_
    refine ex_aload_n (q := 23) dX8_leaveLoop_22 rfl rfl ?_
    obtain ⟨g5, hF⟩ := zg hF
    refine ex_get (q := 26) (v := vi (gt (pt h1 8 l0 12 0) 0 l2 1)) 1 dX8_leaveLoop_23 rfl fl_X8_325 g5 rfl rfl ?_
    obtain ⟨g7, hF⟩ := zg hF
    obtain ⟨r6, h6, e6, hF⟩ := zb_some hF
    refine ex_callV (d' := 1) (q := 29) (as := [vi (gt (pt h1 8 l0 12 0) 0 l2 1)]) (st1 := [vi r6, vr 1 l1]) (r := (some (vi r6))) (h2 := h6) dX8_leaveLoop_26 rfl (run_X10_nextOf e6) mc_X10_nextOf mv_X10_nextOf ml_X8_294 (by decide) g7 rfl rfl (Nat.le_of_ble_eq_true rfl) rfl ?_
    refine ex_iconst (q := 30) dX8_leaveLoop_29 rfl ⟨by decide, by decide⟩ ?_
    refine ex_iadd (q := 31) dX8_leaveLoop_30 rfl ?_
    refine ex_put (q := 34) 2 dX8_leaveLoop_31 rfl fl_X8_104 (by decide) g4 rfl rfl (fun z => by cases z) ?_
    obtain ⟨rfl, rfl⟩ := zr hF
    exact ex_ret none rfl ⟨dX8_leaveLoop_34, rfl⟩ ⟨rfl, rfl⟩
def F_X8_leaveLoop (l0 l1 l2 : Int) (h : zH) : zO := F_X8_leaveLoop_0 l0 l1 l2 h
theorem run_X8_leaveLoop {l0 l1 l2 : Int} {h : zH} {r : Int} {h' : zH} (hF : F_X8_leaveLoop l0 l1 l2 h = some (r, h')) : Run 2 yX8_leaveLoop cX8_leaveLoop 3 none [vr 8 l0, vr 1 l1, vr 0 l2] h none h' := run_of (M := M_X8_leaveLoop) (by decide) rfl (fun z => by cases z) (Nat.le_of_ble_eq_true rfl) (x_X8_leaveLoop_0 hF)
abbrev M_X8_leaveLastWay : zM := (RX8, (cX8_leaveLastWay, (2, (none, false))))
def F_X8_leaveLastWay_44 (l0 : Int) (h : zH) : zO := if 0 ≤ l0 then (zb (F_X8_pop l0 h) (fun r1 h1 => some (0, h1))) else none
set_option maxHeartbeats 1000000 in
theorem x_X8_leaveLastWay_44 {l0 : Int} {h : zH} {r : Int} {h' : zH} (hF : F_X8_leaveLastWay_44 l0 h = some (r, h')) : Ex 2 M_X8_leaveLastWay 44 [some (vr 8 l0), none] [] h (fun r1 h1 => r1 = none ∧ h1 = h') := by
  unfold F_X8_leaveLastWay_44 at hF
  refine ex_aload_n (q := 45) dX8_leaveLastWay_44 rfl rfl ?_
  obtain ⟨g2, hF⟩ := zg hF
  obtain ⟨r1, h1, e1, hF⟩ := zb_some hF
  refine ex_callV (d' := 0) (q := 48) (as := []) (st1 := []) (r := none) (h2 := h1) dX8_leaveLastWay_45 rfl (run_X8_pop e1) mc_X8_pop mv_X8_pop ml_X8_319 (by decide) g2 rfl rfl (Nat.le_of_ble_eq_true rfl) rfl ?_
  obtain ⟨rfl, rfl⟩ := zr hF
  exact ex_ret none rfl ⟨dX8_leaveLastWay_48, rfl⟩ ⟨rfl, rfl⟩
def F_X8_leaveLastWay_0 (l0 l1 : Int) (h : zH) : zO := if 0 ≤ l1 then (if gt h 0 l1 5 ≠ 3 then (F_X8_leaveLastWay_44 l0 h) else (if 0 ≤ l0 then (if gt h 8 l0 12 ≠ 3 then (F_X8_leaveLastWay_44 l0 (pt h 8 l0 16 (wI ((gt h 8 l0 16) + 1)))) else (if 0 ≤ gt h 8 l0 10 then (zb (F_X2_suppress (gt h 8 l0 10) (gt h 0 l1 6) (gt h 8 l0 13) h) (fun r5 h5 => F_X8_leaveLastWay_44 l0 h5)) else none)) else none)) else none
set_option maxHeartbeats 1000000 in
theorem x_X8_leaveLastWay_0 {l0 l1 : Int} {h : zH} {r : Int} {h' : zH} (hF : F_X8_leaveLastWay_0 l0 l1 h = some (r, h')) : Ex 2 M_X8_leaveLastWay 0 [some (vr 8 l0), some (vr 0 l1)] [] h (fun r1 h1 => r1 = none ∧ h1 = h') := by
  unfold F_X8_leaveLastWay_0 at hF
  refine ex_aload_n (q := 1) dX8_leaveLastWay_0 rfl rfl ?_
  obtain ⟨g1, hF⟩ := zg hF
  refine ex_get (q := 4) (v := vi (gt h 0 l1 5)) 5 dX8_leaveLastWay_1 rfl fl_X8_328 g1 rfl rfl ?_
  refine ex_iconst (q := 5) dX8_leaveLastWay_4 rfl ⟨by decide, by decide⟩ ?_
  refine ex_icmp_ne (q := 8) (tgt := 44) dX8_leaveLastWay_5 rfl (by decide) (fun c2 => ?_) (fun c2 => ?_)
  · have hF := ip c2 hF
    exact ex_forget (lo' := [some (vr 8 l0), none]) ⟨Or.inr rfl, Or.inl rfl, trivial⟩ (x_X8_leaveLastWay_44 hF)
  · have hF := im c2 hF
    refine ex_aload_n (q := 9) dX8_leaveLastWay_8 rfl rfl ?_
    obtain ⟨g3, hF⟩ := zg hF
    refine ex_get (q := 12) (v := vi (gt h 8 l0 12)) 12 dX8_leaveLastWay_9 rfl fl_X8_97 g3 rfl rfl ?_
    refine ex_iconst (q := 13) dX8_leaveLastWay_12 rfl ⟨by decide, by decide⟩ ?_
    refine ex_icmp_ne (q := 16) (tgt := 34) dX8_leaveLastWay_13 rfl (by decide) (fun c4 => ?_) (fun c4 => ?_)
    · have hF := ip c4 hF
      refine ex_aload_n (q := 35) dX8_leaveLastWay_34 rfl rfl ?_
      refine ex_dup (q := 36) dX8_leaveLastWay_35 rfl (fun _ z => by cases z) ?_
      refine ex_get (q := 39) (v := vi (gt h 8 l0 16)) 16 dX8_leaveLastWay_36 rfl fl_X8_78 g3 rfl rfl ?_
      refine ex_iconst (q := 40) dX8_leaveLastWay_39 rfl ⟨by decide, by decide⟩ ?_
      refine ex_iadd (q := 41) dX8_leaveLastWay_40 rfl ?_
      refine ex_put (q := 44) 16 dX8_leaveLastWay_41 rfl fl_X8_78 (by decide) g3 rfl rfl (fun z => by cases z) ?_
      exact ex_forget (lo' := [some (vr 8 l0), none]) ⟨Or.inr rfl, Or.inl rfl, trivial⟩ (x_X8_leaveLastWay_44 hF)
    · have hF := im c4 hF
      refine ex_aload_n (q := 17) dX8_leaveLastWay_16 rfl rfl ?_
      refine ex_get (q := 20) (v := vr 2 (gt h 8 l0 10)) 10 dX8_leaveLastWay_17 rfl fl_X8_38 g3 rfl rfl ?_
      refine ex_aload_n (q := 21) dX8_leaveLastWay_20 rfl rfl ?_
      refine ex_get (q := 24) (v := vi (gt h 0 l1 6)) 6 dX8_leaveLastWay_21 rfl fl_X8_331 g1 rfl rfl ?_
      refine ex_aload_n (q := 25) dX8_leaveLastWay_24 rfl rfl ?_
      refine ex_get (q := 28) (v := vi (gt h 8 l0 13)) 13 dX8_leaveLastWay_25 rfl fl_X8_42 g3 rfl rfl ?_
      obtain ⟨g6, hF⟩ := zg hF
      obtain ⟨r5, h5, e5, hF⟩ := zb_some hF
      refine ex_callV (d' := 1) (q := 31) (as := [vi (gt h 0 l1 6), vi (gt h 8 l0 13)]) (st1 := []) (r := none) (h2 := h5) dX8_leaveLastWay_28 rfl (run_X2_suppress e5) mc_X2_suppress mv_X2_suppress ml_X8_367 (by decide) g6 rfl rfl (Nat.le_of_ble_eq_true rfl) rfl ?_
      refine ex_goto (q := 44) dX8_leaveLastWay_31 (by decide) ?_
      exact ex_forget (lo' := [some (vr 8 l0), none]) ⟨Or.inr rfl, Or.inl rfl, trivial⟩ (x_X8_leaveLastWay_44 hF)
def F_X8_leaveLastWay (l0 l1 : Int) (h : zH) : zO := F_X8_leaveLastWay_0 l0 l1 h
theorem run_X8_leaveLastWay {l0 l1 : Int} {h : zH} {r : Int} {h' : zH} (hF : F_X8_leaveLastWay l0 l1 h = some (r, h')) : Run 2 yX8_leaveLastWay cX8_leaveLastWay 2 none [vr 8 l0, vr 0 l1] h none h' := run_of (M := M_X8_leaveLastWay) (by decide) rfl (fun z => by cases z) (Nat.le_of_ble_eq_true rfl) (x_X8_leaveLastWay_0 hF)
abbrev M_X2_kindOf : zM := (RX2, (cX2_kindOf, (2, ((some .int), false))))
def F_X2_kindOf_0 (l0 l1 : Int) (h : zH) : zO := if 0 ≤ l0 then (zb (F_X11_within l1 (gt h 2 l0 6) h) (fun r2 h2 => if r2 = 0 then (some ((-1), h2)) else (if 0 ≤ gt h2 2 l0 0 then (if 0 ≤ l1 ∧ l1 < 16 then (some (gt h2 21 (gt h2 2 l0 0) l1, h2)) else none) else none))) else none
set_option maxHeartbeats 1000000 in
theorem x_X2_kindOf_0 {l0 l1 : Int} {h : zH} {r : Int} {h' : zH} (hF : F_X2_kindOf_0 l0 l1 h = some (r, h')) : Ex 1 M_X2_kindOf 0 [some (vr 2 l0), some (vi l1)] [] h (fun r1 h1 => r1 = some (vi r) ∧ h1 = h') := by
  unfold F_X2_kindOf_0 at hF
  refine ex_iload_n (q := 1) dX2_kindOf_0 rfl rfl ?_
  refine ex_aload_n (q := 2) dX2_kindOf_1 rfl rfl ?_
  obtain ⟨g1, hF⟩ := zg hF
  refine ex_get (q := 5) (v := vi (gt h 2 l0 6)) 6 dX2_kindOf_2 rfl fl_X2_30 g1 rfl rfl ?_
  obtain ⟨r2, h2, e2, hF⟩ := zb_some hF
  refine ex_callS (d' := 0) (q := 8) (as := [vi l1, vi (gt h 2 l0 6)]) (st1 := [vi r2]) (r := (some (vi r2))) (h2 := h2) dX2_kindOf_5 rfl (run_X11_within e2) mc_X11_within ms_X11_within ml_X2_34 (by decide) rfl rfl (Nat.le_of_ble_eq_true rfl) rfl ?_
  refine ex_if_eq (q := 11) (tgt := 20) dX2_kindOf_8 rfl (by decide) (fun c3 => ?_) (fun c3 => ?_)
  · have hF := ip c3 hF
    refine ex_iconst (q := 21) dX2_kindOf_20 rfl ⟨by decide, by decide⟩ ?_
    obtain ⟨rfl, rfl⟩ := zr hF
    exact ex_ret (some (vi (-1))) rfl ⟨dX2_kindOf_21, Or.inl rfl⟩ ⟨rfl, rfl⟩
  · have hF := im c3 hF
    refine ex_aload_n (q := 12) dX2_kindOf_11 rfl rfl ?_
    refine ex_get (q := 15) (v := vr 21 (gt h2 2 l0 0)) 0 dX2_kindOf_12 rfl fl_X2_9 g1 rfl rfl ?_
    refine ex_iload_n (q := 16) dX2_kindOf_15 rfl rfl ?_
    obtain ⟨g4, hF⟩ := zg hF
    obtain ⟨g5, hF⟩ := zg hF
    refine ex_iald (q := 17) dX2_kindOf_16 rfl kd_21 g4 g5.1 g5.2 ?_
    refine ex_goto (q := 21) dX2_kindOf_17 (by decide) ?_
    obtain ⟨rfl, rfl⟩ := zr hF
    exact ex_ret (some (vi (gt h2 21 (gt h2 2 l0 0) l1))) rfl ⟨dX2_kindOf_21, Or.inl rfl⟩ ⟨rfl, rfl⟩
def F_X2_kindOf (l0 l1 : Int) (h : zH) : zO := F_X2_kindOf_0 l0 l1 h
theorem run_X2_kindOf {l0 l1 : Int} {h : zH} {r : Int} {h' : zH} (hF : F_X2_kindOf l0 l1 h = some (r, h')) : Run 1 yX2_kindOf cX2_kindOf 2 (some .int) [vr 2 l0, vi l1] h (some (vi r)) h' := run_of (M := M_X2_kindOf) (by decide) rfl (fun z => by cases z) (Nat.le_of_ble_eq_true rfl) (x_X2_kindOf_0 hF)
abbrev M_X10_aAt : zM := (RX10, (cX10_aAt, (2, ((some .int), false))))
def F_X10_aAt_0 (l0 l1 : Int) (h : zH) : zO := if 0 ≤ l0 then (zb (F_X11_within l1 (gt h 10 l0 4) h) (fun r2 h2 => if r2 = 0 then (some ((-1), h2)) else (if 0 ≤ gt h2 10 l0 1 then (if 0 ≤ l1 ∧ l1 < 40 then (some (gt h2 44 (gt h2 10 l0 1) l1, h2)) else none) else none))) else none
set_option maxHeartbeats 1000000 in
theorem x_X10_aAt_0 {l0 l1 : Int} {h : zH} {r : Int} {h' : zH} (hF : F_X10_aAt_0 l0 l1 h = some (r, h')) : Ex 1 M_X10_aAt 0 [some (vr 10 l0), some (vi l1)] [] h (fun r1 h1 => r1 = some (vi r) ∧ h1 = h') := by
  unfold F_X10_aAt_0 at hF
  refine ex_iload_n (q := 1) dX10_aAt_0 rfl rfl ?_
  refine ex_aload_n (q := 2) dX10_aAt_1 rfl rfl ?_
  obtain ⟨g1, hF⟩ := zg hF
  refine ex_get (q := 5) (v := vi (gt h 10 l0 4)) 4 dX10_aAt_2 rfl fl_X10_30 g1 rfl rfl ?_
  obtain ⟨r2, h2, e2, hF⟩ := zb_some hF
  refine ex_callS (d' := 0) (q := 8) (as := [vi l1, vi (gt h 10 l0 4)]) (st1 := [vi r2]) (r := (some (vi r2))) (h2 := h2) dX10_aAt_5 rfl (run_X11_within e2) mc_X11_within ms_X11_within ml_X10_34 (by decide) rfl rfl (Nat.le_of_ble_eq_true rfl) rfl ?_
  refine ex_if_eq (q := 11) (tgt := 20) dX10_aAt_8 rfl (by decide) (fun c3 => ?_) (fun c3 => ?_)
  · have hF := ip c3 hF
    refine ex_iconst (q := 21) dX10_aAt_20 rfl ⟨by decide, by decide⟩ ?_
    obtain ⟨rfl, rfl⟩ := zr hF
    exact ex_ret (some (vi (-1))) rfl ⟨dX10_aAt_21, Or.inl rfl⟩ ⟨rfl, rfl⟩
  · have hF := im c3 hF
    refine ex_aload_n (q := 12) dX10_aAt_11 rfl rfl ?_
    refine ex_get (q := 15) (v := vr 44 (gt h2 10 l0 1)) 1 dX10_aAt_12 rfl fl_X10_15 g1 rfl rfl ?_
    refine ex_iload_n (q := 16) dX10_aAt_15 rfl rfl ?_
    obtain ⟨g4, hF⟩ := zg hF
    obtain ⟨g5, hF⟩ := zg hF
    refine ex_iald (q := 17) dX10_aAt_16 rfl kd_44 g4 g5.1 g5.2 ?_
    refine ex_goto (q := 21) dX10_aAt_17 (by decide) ?_
    obtain ⟨rfl, rfl⟩ := zr hF
    exact ex_ret (some (vi (gt h2 44 (gt h2 10 l0 1) l1))) rfl ⟨dX10_aAt_21, Or.inl rfl⟩ ⟨rfl, rfl⟩
def F_X10_aAt (l0 l1 : Int) (h : zH) : zO := F_X10_aAt_0 l0 l1 h
theorem run_X10_aAt {l0 l1 : Int} {h : zH} {r : Int} {h' : zH} (hF : F_X10_aAt l0 l1 h = some (r, h')) : Run 1 yX10_aAt cX10_aAt 2 (some .int) [vr 10 l0, vi l1] h (some (vi r)) h' := run_of (M := M_X10_aAt) (by decide) rfl (fun z => by cases z) (Nat.le_of_ble_eq_true rfl) (x_X10_aAt_0 hF)
abbrev M_X11_isUnder : zM := (RX11, (cX11_isUnder, (4, ((some .boolean), false))))
def F_X11_isUnder_4b (ag4 : Int → Int → Int → zH → zO) (l1 l2 l3 : Int) (h : zH) : zO := if 12 ≤ l3 then (some (0, h)) else (zb (F_X11_within l2 12 h) (fun r2 h2 => if r2 = 0 then (some (0, h2)) else (if l2 ≠ l1 then (if 0 ≤ l2 ∧ l2 < gt h2 102 0 (-1) then (ag4 l1 (gt h2 102 0 l2) (wI (l3 + 1)) h2) else none) else (some (1, h2)))))
set_option maxHeartbeats 1000000 in
theorem x_X11_isUnder_4b {ag4 : Int → Int → Int → zH → zO} (hag4 : ∀ (l1 l2 l3 : Int) (h : zH) (r : Int) (h' : zH), ag4 l1 l2 l3 h = some (r, h') → Ex 1 M_X11_isUnder 4 [none, some (vi l1), some (vi l2), some (vi l3)] [] h (fun r1 h1 => r1 = some (vi r) ∧ h1 = h')) {l1 l2 l3 : Int} {h : zH} {r : Int} {h' : zH} (hF : F_X11_isUnder_4b ag4 l1 l2 l3 h = some (r, h')) : Ex 1 M_X11_isUnder 4 [none, some (vi l1), some (vi l2), some (vi l3)] [] h (fun r1 h1 => r1 = some (vi r) ∧ h1 = h') := by
  unfold F_X11_isUnder_4b at hF
  refine ex_iload_n (q := 5) dX11_isUnder_4 rfl rfl ?_
  refine ex_bipush (q := 7) dX11_isUnder_5 rfl (by decide) ⟨by decide, by decide⟩ ?_
  refine ex_icmp_ge (q := 10) (tgt := 38) dX11_isUnder_7 rfl (by decide) (fun c1 => ?_) (fun c1 => ?_)
  · have hF := ip c1 hF
    refine ex_iconst (q := 39) dX11_isUnder_38 rfl ⟨by decide, by decide⟩ ?_
    obtain ⟨rfl, rfl⟩ := zr hF
    exact ex_ret (some (vi 0)) rfl ⟨dX11_isUnder_39, Or.inr ⟨rfl, (by decide)⟩⟩ ⟨rfl, rfl⟩
  · have hF := im c1 hF
    refine ex_iload_n (q := 11) dX11_isUnder_10 rfl rfl ?_
    refine ex_bipush (q := 13) dX11_isUnder_11 rfl (by decide) ⟨by decide, by decide⟩ ?_
    obtain ⟨r2, h2, e2, hF⟩ := zb_some hF
    refine ex_callS (d' := 0) (q := 16) (as := [vi l2, vi 12]) (st1 := [vi r2]) (r := (some (vi r2))) (h2 := h2) dX11_isUnder_13 rfl (run_X11_within e2) mc_X11_within ms_X11_within ml_X11_31 (by decide) rfl rfl (Nat.le_of_ble_eq_true rfl) rfl ?_
    refine ex_if_eq (q := 19) (tgt := 38) dX11_isUnder_16 rfl (by decide) (fun c3 => ?_) (fun c3 => ?_)
    · have hF := ip c3 hF
      refine ex_iconst (q := 39) dX11_isUnder_38 rfl ⟨by decide, by decide⟩ ?_
      obtain ⟨rfl, rfl⟩ := zr hF
      exact ex_ret (some (vi 0)) rfl ⟨dX11_isUnder_39, Or.inr ⟨rfl, (by decide)⟩⟩ ⟨rfl, rfl⟩
    · have hF := im c3 hF
      refine ex_iload_n (q := 20) dX11_isUnder_19 rfl rfl ?_
      refine ex_iload_n (q := 21) dX11_isUnder_20 rfl rfl ?_
      refine ex_icmp_ne (q := 24) (tgt := 26) dX11_isUnder_21 rfl (by decide) (fun c4 => ?_) (fun c4 => ?_)
      · have hF := ip c4 hF
        refine ex_gets (q := 29) dX11_isUnder_26 rfl sl_11_149 ?_
        refine ex_iload_n (q := 30) dX11_isUnder_29 rfl rfl ?_
        obtain ⟨g5, hF⟩ := zg hF
        refine ex_ialdS (q := 31) dX11_isUnder_30 rfl (by decide) (by decide) g5.1 g5.2 ?_
        refine ex_istore_n (q := 32) (lo' := [none, some (vi l1), some (vi (gt h2 102 0 l2)), some (vi l3)]) dX11_isUnder_31 rfl (by decide) rfl rfl ?_
        refine ex_iinc (q := 35) (lo' := [none, some (vi l1), some (vi (gt h2 102 0 l2)), some (vi (wI (l3 + 1)))]) dX11_isUnder_32 rfl rfl (by decide) rfl rfl ?_
        refine ex_goto (q := 4) dX11_isUnder_35 (by decide) ?_
        exact ex_forget (lo' := [none, some (vi l1), some (vi (gt h2 102 0 l2)), some (vi (wI (l3 + 1)))]) ⟨Or.inl rfl, Or.inr rfl, Or.inr rfl, Or.inr rfl, trivial⟩ (hag4 _ _ _ _ _ _ hF)
      · have hF := im c4 hF
        refine ex_iconst (q := 25) dX11_isUnder_24 rfl ⟨by decide, by decide⟩ ?_
        obtain ⟨rfl, rfl⟩ := zr hF
        exact ex_ret (some (vi 1)) rfl ⟨dX11_isUnder_25, Or.inr ⟨rfl, (by decide)⟩⟩ ⟨rfl, rfl⟩
def F_X11_isUnder_4 : Nat → Int → Int → Int → zH → zO
  | 0, _, _, _, _ => none
  | n + 1, l1, l2, l3, h => F_X11_isUnder_4b (F_X11_isUnder_4 n) l1 l2 l3 h
theorem x_X11_isUnder_4 : ∀ (n : Nat) (l1 l2 l3 : Int) (h : zH) (r : Int) (h' : zH), F_X11_isUnder_4 n l1 l2 l3 h = some (r, h') → Ex 1 M_X11_isUnder 4 [none, some (vi l1), some (vi l2), some (vi l3)] [] h (fun r1 h1 => r1 = some (vi r) ∧ h1 = h')
  | 0, _, _, _, _, _, _, hF => by cases hF
  | n + 1, _, _, _, _, _, _, hF => x_X11_isUnder_4b (x_X11_isUnder_4 n) hF
def F_X11_isUnder_0 (l0 l1 : Int) (h : zH) : zO := F_X11_isUnder_4 zF l1 l0 0 h
set_option maxHeartbeats 1000000 in
theorem x_X11_isUnder_0 {l0 l1 : Int} {h : zH} {r : Int} {h' : zH} (hF : F_X11_isUnder_0 l0 l1 h = some (r, h')) : Ex 1 M_X11_isUnder 0 [some (vi l0), some (vi l1), none, none] [] h (fun r1 h1 => r1 = some (vi r) ∧ h1 = h') := by
  unfold F_X11_isUnder_0 at hF
  refine ex_iload_n (q := 1) dX11_isUnder_0 rfl rfl ?_
  refine ex_istore_n (q := 2) (lo' := [some (vi l0), some (vi l1), some (vi l0), none]) dX11_isUnder_1 rfl (by decide) rfl rfl ?_
  refine ex_iconst (q := 3) dX11_isUnder_2 rfl ⟨by decide, by decide⟩ ?_
  refine ex_istore_n (q := 4) (lo' := [some (vi l0), some (vi l1), some (vi l0), some (vi 0)]) dX11_isUnder_3 rfl (by decide) rfl rfl ?_
  exact ex_forget (lo' := [none, some (vi l1), some (vi l0), some (vi 0)]) ⟨Or.inl rfl, Or.inr rfl, Or.inr rfl, Or.inr rfl, trivial⟩ (x_X11_isUnder_4 _ _ _ _ _ _ _ hF)
def F_X11_isUnder (l0 l1 : Int) (h : zH) : zO := F_X11_isUnder_0 l0 l1 h
theorem run_X11_isUnder {l0 l1 : Int} {h : zH} {r : Int} {h' : zH} (hF : F_X11_isUnder l0 l1 h = some (r, h')) : Run 1 yX11_isUnder cX11_isUnder 4 (some .boolean) [vi l0, vi l1] h (some (vi r)) h' := run_of (M := M_X11_isUnder) (by decide) rfl (fun z => by cases z) (Nat.le_of_ble_eq_true rfl) (x_X11_isUnder_0 hF)
abbrev M_X10_guardFor : zM := (RX10, (cX10_guardFor, (5, ((some .int), false))))
def F_X10_guardFor_9b (ag9 : Int → Int → Int → Int → zH → zO) (l0 l2 l3 l4 : Int) (h : zH) : zO := if 40 ≤ l4 then (some ((-1), h)) else (if 0 ≤ l0 then (zb (F_X10_opAt l0 l3 h) (fun r2 h2 => if r2 ≠ 14 then (some ((-1), h2)) else (zb (F_X10_aAt l0 l3 h2) (fun r5 h5 => zb (F_X11_isUnder l2 r5 h5) (fun r6 h6 => if r6 = 0 then (zb (F_X10_nextOf l0 l3 h6) (fun r8 h8 => ag9 l0 l2 r8 (wI (l4 + 1)) h8)) else (some (l3, h6))))))) else none)
set_option maxHeartbeats 1000000 in
theorem x_X10_guardFor_9b {ag9 : Int → Int → Int → Int → zH → zO} (hag9 : ∀ (l0 l2 l3 l4 : Int) (h : zH) (r : Int) (h' : zH), ag9 l0 l2 l3 l4 h = some (r, h') → Ex 2 M_X10_guardFor 9 [some (vr 10 l0), none, some (vi l2), some (vi l3), some (vi l4)] [] h (fun r1 h1 => r1 = some (vi r) ∧ h1 = h')) {l0 l2 l3 l4 : Int} {h : zH} {r : Int} {h' : zH} (hF : F_X10_guardFor_9b ag9 l0 l2 l3 l4 h = some (r, h')) : Ex 2 M_X10_guardFor 9 [some (vr 10 l0), none, some (vi l2), some (vi l3), some (vi l4)] [] h (fun r1 h1 => r1 = some (vi r) ∧ h1 = h') := by
  unfold F_X10_guardFor_9b at hF
  refine ex_iload (q := 11) dX10_guardFor_9 rfl rfl ?_
  refine ex_bipush (q := 13) dX10_guardFor_11 rfl (by decide) ⟨by decide, by decide⟩ ?_
  refine ex_icmp_ge (q := 16) (tgt := 52) dX10_guardFor_13 rfl (by decide) (fun c1 => ?_) (fun c1 => ?_)
  · have hF := ip c1 hF
    refine ex_iconst (q := 53) dX10_guardFor_52 rfl ⟨by decide, by decide⟩ ?_
    obtain ⟨rfl, rfl⟩ := zr hF
    exact ex_ret (some (vi (-1))) rfl ⟨dX10_guardFor_53, Or.inl rfl⟩ ⟨rfl, rfl⟩
  · have hF := im c1 hF
    refine ex_aload_n (q := 17) dX10_guardFor_16 rfl rfl ?_
    refine ex_iload_n (q := 18) dX10_guardFor_17 rfl rfl ?_
    obtain ⟨g3, hF⟩ := zg hF
    obtain ⟨r2, h2, e2, hF⟩ := zb_some hF
    refine ex_callV (d' := 1) (q := 21) (as := [vi l3]) (st1 := [vi r2]) (r := (some (vi r2))) (h2 := h2) dX10_guardFor_18 rfl (run_X10_opAt e2) mc_X10_opAt mv_X10_opAt ml_X10_71 (by decide) g3 rfl rfl (Nat.le_of_ble_eq_true rfl) rfl ?_
    refine ex_bipush (q := 23) dX10_guardFor_21 rfl (by decide) ⟨by decide, by decide⟩ ?_
    refine ex_icmp_ne (q := 26) (tgt := 52) dX10_guardFor_23 rfl (by decide) (fun c4 => ?_) (fun c4 => ?_)
    · have hF := ip c4 hF
      refine ex_iconst (q := 53) dX10_guardFor_52 rfl ⟨by decide, by decide⟩ ?_
      obtain ⟨rfl, rfl⟩ := zr hF
      exact ex_ret (some (vi (-1))) rfl ⟨dX10_guardFor_53, Or.inl rfl⟩ ⟨rfl, rfl⟩
    · have hF := im c4 hF
      refine ex_iload_n (q := 27) dX10_guardFor_26 rfl rfl ?_
      refine ex_aload_n (q := 28) dX10_guardFor_27 rfl rfl ?_
      refine ex_iload_n (q := 29) dX10_guardFor_28 rfl rfl ?_
      obtain ⟨r5, h5, e5, hF⟩ := zb_some hF
      refine ex_callV (d' := 1) (q := 32) (as := [vi l3]) (st1 := [vi r5, vi l2]) (r := (some (vi r5))) (h2 := h5) dX10_guardFor_29 rfl (run_X10_aAt e5) mc_X10_aAt mv_X10_aAt ml_X10_81 (by decide) g3 rfl rfl (Nat.le_of_ble_eq_true rfl) rfl ?_
      obtain ⟨r6, h6, e6, hF⟩ := zb_some hF
      refine ex_callS (d' := 1) (q := 35) (as := [vi l2, vi r5]) (st1 := [vi r6]) (r := (some (vi r6))) (h2 := h6) dX10_guardFor_32 rfl (run_X11_isUnder e6) mc_X11_isUnder ms_X11_isUnder ml_X10_84 (by decide) rfl rfl (Nat.le_of_ble_eq_true rfl) rfl ?_
      refine ex_if_eq (q := 38) (tgt := 40) dX10_guardFor_35 rfl (by decide) (fun c7 => ?_) (fun c7 => ?_)
      · have hF := ip c7 hF
        refine ex_aload_n (q := 41) dX10_guardFor_40 rfl rfl ?_
        refine ex_iload_n (q := 42) dX10_guardFor_41 rfl rfl ?_
        obtain ⟨r8, h8, e8, hF⟩ := zb_some hF
        refine ex_callV (d' := 1) (q := 45) (as := [vi l3]) (st1 := [vi r8]) (r := (some (vi r8))) (h2 := h8) dX10_guardFor_42 rfl (run_X10_nextOf e8) mc_X10_nextOf mv_X10_nextOf ml_X10_78 (by decide) g3 rfl rfl (Nat.le_of_ble_eq_true rfl) rfl ?_
        refine ex_istore_n (q := 46) (lo' := [some (vr 10 l0), none, some (vi l2), some (vi r8), some (vi l4)]) dX10_guardFor_45 rfl (by decide) rfl rfl ?_
        refine ex_iinc (q := 49) (lo' := [some (vr 10 l0), none, some (vi l2), some (vi r8), some (vi (wI (l4 + 1)))]) dX10_guardFor_46 rfl rfl (by decide) rfl rfl ?_
        refine ex_goto (q := 9) dX10_guardFor_49 (by decide) ?_
        exact ex_forget (lo' := [some (vr 10 l0), none, some (vi l2), some (vi r8), some (vi (wI (l4 + 1)))]) ⟨Or.inr rfl, Or.inl rfl, Or.inr rfl, Or.inr rfl, Or.inr rfl, trivial⟩ (hag9 _ _ _ _ _ _ _ hF)
      · have hF := im c7 hF
        refine ex_iload_n (q := 39) dX10_guardFor_38 rfl rfl ?_
        obtain ⟨rfl, rfl⟩ := zr hF
        exact ex_ret (some (vi l3)) rfl ⟨dX10_guardFor_39, Or.inl rfl⟩ ⟨rfl, rfl⟩
def F_X10_guardFor_9 : Nat → Int → Int → Int → Int → zH → zO
  | 0, _, _, _, _, _ => none
  | n + 1, l0, l2, l3, l4, h => F_X10_guardFor_9b (F_X10_guardFor_9 n) l0 l2 l3 l4 h
theorem x_X10_guardFor_9 : ∀ (n : Nat) (l0 l2 l3 l4 : Int) (h : zH) (r : Int) (h' : zH), F_X10_guardFor_9 n l0 l2 l3 l4 h = some (r, h') → Ex 2 M_X10_guardFor 9 [some (vr 10 l0), none, some (vi l2), some (vi l3), some (vi l4)] [] h (fun r1 h1 => r1 = some (vi r) ∧ h1 = h')
  | 0, _, _, _, _, _, _, _, hF => by cases hF
  | n + 1, _, _, _, _, _, _, _, hF => x_X10_guardFor_9b (x_X10_guardFor_9 n) hF
def F_X10_guardFor_0 (l0 l1 l2 : Int) (h : zH) : zO := if 0 ≤ l0 then (zb (F_X10_nextOf l0 l1 h) (fun r1 h1 => F_X10_guardFor_9 zF l0 l2 r1 0 h1)) else none
set_option maxHeartbeats 1000000 in
theorem x_X10_guardFor_0 {l0 l1 l2 : Int} {h : zH} {r : Int} {h' : zH} (hF : F_X10_guardFor_0 l0 l1 l2 h = some (r, h')) : Ex 2 M_X10_guardFor 0 [some (vr 10 l0), some (vi l1), some (vi l2), none, none] [] h (fun r1 h1 => r1 = some (vi r) ∧ h1 = h') := by
  unfold F_X10_guardFor_0 at hF
  refine ex_aload_n (q := 1) dX10_guardFor_0 rfl rfl ?_
  refine ex_iload_n (q := 2) dX10_guardFor_1 rfl rfl ?_
  obtain ⟨g2, hF⟩ := zg hF
  obtain ⟨r1, h1, e1, hF⟩ := zb_some hF
  refine ex_callV (d' := 1) (q := 5) (as := [vi l1]) (st1 := [vi r1]) (r := (some (vi r1))) (h2 := h1) dX10_guardFor_2 rfl (run_X10_nextOf e1) mc_X10_nextOf mv_X10_nextOf ml_X10_78 (by decide) g2 rfl rfl (Nat.le_of_ble_eq_true rfl) rfl ?_
  refine ex_istore_n (q := 6) (lo' := [some (vr 10 l0), some (vi l1), some (vi l2), some (vi r1), none]) dX10_guardFor_5 rfl (by decide) rfl rfl ?_
  refine ex_iconst (q := 7) dX10_guardFor_6 rfl ⟨by decide, by decide⟩ ?_
  refine ex_istore (q := 9) (lo' := [some (vr 10 l0), some (vi l1), some (vi l2), some (vi r1), some (vi 0)]) dX10_guardFor_7 rfl (by decide) rfl rfl ?_
  exact ex_forget (lo' := [some (vr 10 l0), none, some (vi l2), some (vi r1), some (vi 0)]) ⟨Or.inr rfl, Or.inl rfl, Or.inr rfl, Or.inr rfl, Or.inr rfl, trivial⟩ (x_X10_guardFor_9 _ _ _ _ _ _ _ _ hF)
def F_X10_guardFor (l0 l1 l2 : Int) (h : zH) : zO := F_X10_guardFor_0 l0 l1 l2 h
theorem run_X10_guardFor {l0 l1 l2 : Int} {h : zH} {r : Int} {h' : zH} (hF : F_X10_guardFor l0 l1 l2 h = some (r, h')) : Run 2 yX10_guardFor cX10_guardFor 5 (some .int) [vr 10 l0, vi l1, vi l2] h (some (vi r)) h' := run_of (M := M_X10_guardFor) (by decide) rfl (fun z => by cases z) (Nat.le_of_ble_eq_true rfl) (x_X10_guardFor_0 hF)
abbrev M_X8_step : zM := (RX8, (cX8_step, (1, ((some .boolean), false))))
def F_X8_step_0 (l0 : Int) (h : zH) : zO := if 0 ≤ l0 then (if gt h 8 l0 14 < 160 then (some (1, (pt h 8 l0 14 (wI ((gt h 8 l0 14) + 1))))) else (some (0, (pt h 8 l0 12 4)))) else none
set_option maxHeartbeats 1000000 in
theorem x_X8_step_0 {l0 : Int} {h : zH} {r : Int} {h' : zH} (hF : F_X8_step_0 l0 h = some (r, h')) : Ex 0 M_X8_step 0 [some (vr 8 l0)] [] h (fun r1 h1 => r1 = some (vi r) ∧ h1 = h') := by
  unfold F_X8_step_0 at hF
  refine ex_aload_n (q := 1) dX8_step_0 rfl rfl ?_
  obtain ⟨g1, hF⟩ := zg hF
  refine ex_get (q := 4) (v := vi (gt h 8 l0 14)) 14 dX8_step_1 rfl fl_X8_66 g1 rfl rfl ?_
  refine ex_sipush (q := 7) dX8_step_4 rfl (by decide) ⟨by decide, by decide⟩ ?_
  refine ex_icmp_lt (q := 10) (tgt := 17) dX8_step_7 rfl (by decide) (fun c2 => ?_) (fun c2 => ?_)
  · have hF := ip c2 hF
    refine ex_aload_n (q := 18) dX8_step_17 rfl rfl ?_
    refine ex_dup (q := 19) dX8_step_18 rfl (fun _ z => by cases z) ?_
    refine ex_get (q := 22) (v := vi (gt h 8 l0 14)) 14 dX8_step_19 rfl fl_X8_66 g1 rfl rfl ?_
    refine ex_iconst (q := 23) dX8_step_22 rfl ⟨by decide, by decide⟩ ?_
    refine ex_iadd (q := 24) dX8_step_23 rfl ?_
    refine ex_put (q := 27) 14 dX8_step_24 rfl fl_X8_66 (by decide) g1 rfl rfl (fun z => by cases z) ?_
    refine ex_iconst (q := 28) dX8_step_27 rfl ⟨by decide, by decide⟩ ?_
    obtain ⟨rfl, rfl⟩ := zr hF
    exact ex_ret (some (vi 1)) rfl ⟨dX8_step_28, Or.inr ⟨rfl, (by decide)⟩⟩ ⟨rfl, rfl⟩
  · have hF := im c2 hF
    refine ex_aload_n (q := 11) dX8_step_10 rfl rfl ?_
    refine ex_iconst (q := 12) dX8_step_11 rfl ⟨by decide, by decide⟩ ?_
    refine ex_put (q := 15) 12 dX8_step_12 rfl fl_X8_97 (by decide) g1 rfl rfl (fun z => by cases z) ?_
    refine ex_iconst (q := 16) dX8_step_15 rfl ⟨by decide, by decide⟩ ?_
    obtain ⟨rfl, rfl⟩ := zr hF
    exact ex_ret (some (vi 0)) rfl ⟨dX8_step_16, Or.inr ⟨rfl, (by decide)⟩⟩ ⟨rfl, rfl⟩
def F_X8_step (l0 : Int) (h : zH) : zO := F_X8_step_0 l0 h
theorem run_X8_step {l0 : Int} {h : zH} {r : Int} {h' : zH} (hF : F_X8_step l0 h = some (r, h')) : Run 0 yX8_step cX8_step 1 (some .boolean) [vr 8 l0] h (some (vi r)) h' := run_of (M := M_X8_step) (by decide) rfl (fun z => by cases z) (Nat.le_of_ble_eq_true rfl) (x_X8_step_0 hF)
abbrev M_X8_beginWay : zM := (RX8, (cX8_beginWay, (4, (none, false))))
def F_X8_beginWay_0 (l0 l1 l2 l3 : Int) (h : zH) : zO := if 0 ≤ l0 then (zb (F_X8_step l0 h) (fun r1 h1 => if r1 = 0 then (some (0, h1)) else (if 0 ≤ l2 then (if 0 ≤ l1 then (some (0, (pt (pt (pt (pt (pt h1 0 l2 3 1) 0 l2 4 (gt (pt h1 0 l2 3 1) 8 l0 13)) 8 l0 12 0) 8 l0 13 (-1)) 1 l1 2 (wI (l3 + 1))))) else none) else none))) else none
set_option maxHeartbeats 1000000 in
theorem x_X8_beginWay_0 {l0 l1 l2 l3 : Int} {h : zH} {r : Int} {h' : zH} (hF : F_X8_beginWay_0 l0 l1 l2 l3 h = some (r, h')) : Ex 1 M_X8_beginWay 0 [some (vr 8 l0), some (vr 1 l1), some (vr 0 l2), some (vi l3)] [] h (fun r1 h1 => r1 = none ∧ h1 = h') := by
  unfold F_X8_beginWay_0 at hF
  refine ex_aload_n (q := 1) dX8_beginWay_0 rfl rfl ?_
  obtain ⟨g2, hF⟩ := zg hF
  obtain ⟨r1, h1, e1, hF⟩ := zb_some hF
  refine ex_callV (d' := 0) (q := 4) (as := []) (st1 := [vi r1]) (r := (some (vi r1))) (h2 := h1) dX8_beginWay_1 rfl (run_X8_step e1) mc_X8_step mv_X8_step ml_X8_118 (by decide) g2 rfl rfl (Nat.le_of_ble_eq_true rfl) rfl ?_
  refine ex_if_eq (q := 7) (tgt := 37) dX8_beginWay_4 rfl (by decide) (fun c3 => ?_) (fun c3 => ?_)
  · have hF := ip c3 hF
    obtain ⟨rfl, rfl⟩ := zr hF
    exact ex_ret none rfl ⟨dX8_beginWay_37, rfl⟩ ⟨rfl, rfl⟩
  · have hF := im c3 hF
    refine ex_aload_n (q := 8) dX8_beginWay_7 rfl rfl ?_
    refine ex_iconst (q := 9) dX8_beginWay_8 rfl ⟨by decide, by decide⟩ ?_
    obtain ⟨g4, hF⟩ := zg hF
    refine ex_put (q := 12) 3 dX8_beginWay_9 rfl fl_X8_307 (by decide) g4 rfl rfl (fun z => by cases z) ?_
    refine ex_aload_n (q := 13) dX8_beginWay_12 rfl rfl ?_
    refine ex_aload_n (q := 14) dX8_beginWay_13 rfl rfl ?_
    refine ex_get (q := 17) (v := vi (gt (pt h1 0 l2 3 1) 8 l0 13)) 13 dX8_beginWay_14 rfl fl_X8_42 g2 rfl rfl ?_
    refine ex_put (q := 20) 4 dX8_beginWay_17 rfl fl_X8_361 (by decide) g4 rfl rfl (fun z => by cases z) ?_
    refine ex_aload_n (q := 21) dX8_beginWay_20 rfl rfl ?_
    refine ex_iconst (q := 22) dX8_beginWay_21 rfl ⟨by decide, by decide⟩ ?_
    refine ex_put (q := 25) 12 dX8_beginWay_22 rfl fl_X8_97 (by decide) g2 rfl rfl (fun z => by cases z) ?_
    refine ex_aload_n (q := 26) dX8_beginWay_25 rfl rfl ?_
    refine ex_iconst (q := 27) dX8_beginWay_26 rfl ⟨by decide, by decide⟩ ?_
    refine ex_put (q := 30) 13 dX8_beginWay_27 rfl fl_X8_42 (by decide) g2 rfl rfl (fun z => by cases z) ?_
    refine ex_aload_n (q := 31) dX8_beginWay_30 rfl rfl ?_
    refine ex_iload_n (q := 32) dX8_beginWay_31 rfl rfl ?_
    refine ex_iconst (q := 33) dX8_beginWay_32 rfl ⟨by decide, by decide⟩ ?_
    refine ex_iadd (q := 34) dX8_beginWay_33 rfl ?_
    obtain ⟨g5, hF⟩ := zg hF
    refine ex_put (q := 37) 2 dX8_beginWay_34 rfl fl_X8_104 (by decide) g5 rfl rfl (fun z => by cases z) ?_
    obtain ⟨rfl, rfl⟩ := zr hF
    exact ex_ret none rfl ⟨dX8_beginWay_37, rfl⟩ ⟨rfl, rfl⟩
def F_X8_beginWay (l0 l1 l2 l3 : Int) (h : zH) : zO := F_X8_beginWay_0 l0 l1 l2 l3 h
theorem run_X8_beginWay {l0 l1 l2 l3 : Int} {h : zH} {r : Int} {h' : zH} (hF : F_X8_beginWay l0 l1 l2 l3 h = some (r, h')) : Run 1 yX8_beginWay cX8_beginWay 4 none [vr 8 l0, vr 1 l1, vr 0 l2, vi l3] h none h' := run_of (M := M_X8_beginWay) (by decide) rfl (fun z => by cases z) (Nat.le_of_ble_eq_true rfl) (x_X8_beginWay_0 hF)
abbrev M_X2_giveCause : zM := (RX2, (cX2_giveCause, (3, (none, false))))
def F_X2_giveCause_0 (l0 l1 l2 : Int) (h : zH) : zO := if 0 ≤ l0 then (zb (F_X11_within l1 (gt h 2 l0 6) h) (fun r2 h2 => if r2 = 0 then (some (0, h2)) else (if 0 ≤ gt h2 2 l0 4 then (if 0 ≤ l1 ∧ l1 < 16 then (if gt h2 25 (gt h2 2 l0 4) l1 ≠ (-1) then (some (0, h2)) else (some (0, (pt h2 25 (gt h2 2 l0 4) l1 l2)))) else none) else none))) else none
set_option maxHeartbeats 1000000 in
theorem x_X2_giveCause_0 {l0 l1 l2 : Int} {h : zH} {r : Int} {h' : zH} (hF : F_X2_giveCause_0 l0 l1 l2 h = some (r, h')) : Ex 1 M_X2_giveCause 0 [some (vr 2 l0), some (vi l1), some (vi l2)] [] h (fun r1 h1 => r1 = none ∧ h1 = h') := by
  unfold F_X2_giveCause_0 at hF
  refine ex_iload_n (q := 1) dX2_giveCause_0 rfl rfl ?_
  refine ex_aload_n (q := 2) dX2_giveCause_1 rfl rfl ?_
  obtain ⟨g1, hF⟩ := zg hF
  refine ex_get (q := 5) (v := vi (gt h 2 l0 6)) 6 dX2_giveCause_2 rfl fl_X2_30 g1 rfl rfl ?_
  obtain ⟨r2, h2, e2, hF⟩ := zb_some hF
  refine ex_callS (d' := 0) (q := 8) (as := [vi l1, vi (gt h 2 l0 6)]) (st1 := [vi r2]) (r := (some (vi r2))) (h2 := h2) dX2_giveCause_5 rfl (run_X11_within e2) mc_X11_within ms_X11_within ml_X2_34 (by decide) rfl rfl (Nat.le_of_ble_eq_true rfl) rfl ?_
  refine ex_if_eq (q := 11) (tgt := 28) dX2_giveCause_8 rfl (by decide) (fun c3 => ?_) (fun c3 => ?_)
  · have hF := ip c3 hF
    obtain ⟨rfl, rfl⟩ := zr hF
    exact ex_ret none rfl ⟨dX2_giveCause_28, rfl⟩ ⟨rfl, rfl⟩
  · have hF := im c3 hF
    refine ex_aload_n (q := 12) dX2_giveCause_11 rfl rfl ?_
    refine ex_get (q := 15) (v := vr 25 (gt h2 2 l0 4)) 4 dX2_giveCause_12 rfl fl_X2_24 g1 rfl rfl ?_
    refine ex_iload_n (q := 16) dX2_giveCause_15 rfl rfl ?_
    obtain ⟨g4, hF⟩ := zg hF
    obtain ⟨g5, hF⟩ := zg hF
    refine ex_iald (q := 17) dX2_giveCause_16 rfl kd_25 g4 g5.1 g5.2 ?_
    refine ex_iconst (q := 18) dX2_giveCause_17 rfl ⟨by decide, by decide⟩ ?_
    refine ex_icmp_ne (q := 21) (tgt := 28) dX2_giveCause_18 rfl (by decide) (fun c6 => ?_) (fun c6 => ?_)
    · have hF := ip c6 hF
      obtain ⟨rfl, rfl⟩ := zr hF
      exact ex_ret none rfl ⟨dX2_giveCause_28, rfl⟩ ⟨rfl, rfl⟩
    · have hF := im c6 hF
      refine ex_aload_n (q := 22) dX2_giveCause_21 rfl rfl ?_
      refine ex_get (q := 25) (v := vr 25 (gt h2 2 l0 4)) 4 dX2_giveCause_22 rfl fl_X2_24 g1 rfl rfl ?_
      refine ex_iload_n (q := 26) dX2_giveCause_25 rfl rfl ?_
      refine ex_iload_n (q := 27) dX2_giveCause_26 rfl rfl ?_
      refine ex_iast (q := 28) dX2_giveCause_27 rfl kd_25 g4 g5.1 g5.2 ?_
      obtain ⟨rfl, rfl⟩ := zr hF
      exact ex_ret none rfl ⟨dX2_giveCause_28, rfl⟩ ⟨rfl, rfl⟩
def F_X2_giveCause (l0 l1 l2 : Int) (h : zH) : zO := F_X2_giveCause_0 l0 l1 l2 h
theorem run_X2_giveCause {l0 l1 l2 : Int} {h : zH} {r : Int} {h' : zH} (hF : F_X2_giveCause l0 l1 l2 h = some (r, h')) : Run 1 yX2_giveCause cX2_giveCause 3 none [vr 2 l0, vi l1, vi l2] h none h' := run_of (M := M_X2_giveCause) (by decide) rfl (fun z => by cases z) (Nat.le_of_ble_eq_true rfl) (x_X2_giveCause_0 hF)
abbrev M_X10_wayOut : zM := (RX10, (cX10_wayOut, (4, ((some .int), false))))
def F_X10_wayOut_8b (ag8 : Int → Int → Int → zH → zO) (l0 l2 l3 : Int) (h : zH) : zO := if 40 ≤ l3 then (some (l2, h)) else (if 0 ≤ l0 then (zb (F_X10_opAt l0 l2 h) (fun r2 h2 => if r2 ≠ 14 then (some (l2, h2)) else (zb (F_X10_nextOf l0 l2 h2) (fun r5 h5 => ag8 l0 r5 (wI (l3 + 1)) h5)))) else none)
set_option maxHeartbeats 1000000 in
theorem x_X10_wayOut_8b {ag8 : Int → Int → Int → zH → zO} (hag8 : ∀ (l0 l2 l3 : Int) (h : zH) (r : Int) (h' : zH), ag8 l0 l2 l3 h = some (r, h') → Ex 2 M_X10_wayOut 8 [some (vr 10 l0), none, some (vi l2), some (vi l3)] [] h (fun r1 h1 => r1 = some (vi r) ∧ h1 = h')) {l0 l2 l3 : Int} {h : zH} {r : Int} {h' : zH} (hF : F_X10_wayOut_8b ag8 l0 l2 l3 h = some (r, h')) : Ex 2 M_X10_wayOut 8 [some (vr 10 l0), none, some (vi l2), some (vi l3)] [] h (fun r1 h1 => r1 = some (vi r) ∧ h1 = h') := by
  unfold F_X10_wayOut_8b at hF
  refine ex_iload_n (q := 9) dX10_wayOut_8 rfl rfl ?_
  refine ex_bipush (q := 11) dX10_wayOut_9 rfl (by decide) ⟨by decide, by decide⟩ ?_
  refine ex_icmp_ge (q := 14) (tgt := 36) dX10_wayOut_11 rfl (by decide) (fun c1 => ?_) (fun c1 => ?_)
  · have hF := ip c1 hF
    refine ex_iload_n (q := 37) dX10_wayOut_36 rfl rfl ?_
    obtain ⟨rfl, rfl⟩ := zr hF
    exact ex_ret (some (vi l2)) rfl ⟨dX10_wayOut_37, Or.inl rfl⟩ ⟨rfl, rfl⟩
  · have hF := im c1 hF
    refine ex_aload_n (q := 15) dX10_wayOut_14 rfl rfl ?_
    refine ex_iload_n (q := 16) dX10_wayOut_15 rfl rfl ?_
    obtain ⟨g3, hF⟩ := zg hF
    obtain ⟨r2, h2, e2, hF⟩ := zb_some hF
    refine ex_callV (d' := 1) (q := 19) (as := [vi l2]) (st1 := [vi r2]) (r := (some (vi r2))) (h2 := h2) dX10_wayOut_16 rfl (run_X10_opAt e2) mc_X10_opAt mv_X10_opAt ml_X10_71 (by decide) g3 rfl rfl (Nat.le_of_ble_eq_true rfl) rfl ?_
    refine ex_bipush (q := 21) dX10_wayOut_19 rfl (by decide) ⟨by decide, by decide⟩ ?_
    refine ex_icmp_ne (q := 24) (tgt := 36) dX10_wayOut_21 rfl (by decide) (fun c4 => ?_) (fun c4 => ?_)
    · have hF := ip c4 hF
      refine ex_iload_n (q := 37) dX10_wayOut_36 rfl rfl ?_
      obtain ⟨rfl, rfl⟩ := zr hF
      exact ex_ret (some (vi l2)) rfl ⟨dX10_wayOut_37, Or.inl rfl⟩ ⟨rfl, rfl⟩
    · have hF := im c4 hF
      refine ex_aload_n (q := 25) dX10_wayOut_24 rfl rfl ?_
      refine ex_iload_n (q := 26) dX10_wayOut_25 rfl rfl ?_
      obtain ⟨r5, h5, e5, hF⟩ := zb_some hF
      refine ex_callV (d' := 1) (q := 29) (as := [vi l2]) (st1 := [vi r5]) (r := (some (vi r5))) (h2 := h5) dX10_wayOut_26 rfl (run_X10_nextOf e5) mc_X10_nextOf mv_X10_nextOf ml_X10_78 (by decide) g3 rfl rfl (Nat.le_of_ble_eq_true rfl) rfl ?_
      refine ex_istore_n (q := 30) (lo' := [some (vr 10 l0), none, some (vi r5), some (vi l3)]) dX10_wayOut_29 rfl (by decide) rfl rfl ?_
      refine ex_iinc (q := 33) (lo' := [some (vr 10 l0), none, some (vi r5), some (vi (wI (l3 + 1)))]) dX10_wayOut_30 rfl rfl (by decide) rfl rfl ?_
      refine ex_goto (q := 8) dX10_wayOut_33 (by decide) ?_
      exact ex_forget (lo' := [some (vr 10 l0), none, some (vi r5), some (vi (wI (l3 + 1)))]) ⟨Or.inr rfl, Or.inl rfl, Or.inr rfl, Or.inr rfl, trivial⟩ (hag8 _ _ _ _ _ _ hF)
def F_X10_wayOut_8 : Nat → Int → Int → Int → zH → zO
  | 0, _, _, _, _ => none
  | n + 1, l0, l2, l3, h => F_X10_wayOut_8b (F_X10_wayOut_8 n) l0 l2 l3 h
theorem x_X10_wayOut_8 : ∀ (n : Nat) (l0 l2 l3 : Int) (h : zH) (r : Int) (h' : zH), F_X10_wayOut_8 n l0 l2 l3 h = some (r, h') → Ex 2 M_X10_wayOut 8 [some (vr 10 l0), none, some (vi l2), some (vi l3)] [] h (fun r1 h1 => r1 = some (vi r) ∧ h1 = h')
  | 0, _, _, _, _, _, _, hF => by cases hF
  | n + 1, _, _, _, _, _, _, hF => x_X10_wayOut_8b (x_X10_wayOut_8 n) hF
def F_X10_wayOut_0 (l0 l1 : Int) (h : zH) : zO := if 0 ≤ l0 then (zb (F_X10_nextOf l0 l1 h) (fun r1 h1 => F_X10_wayOut_8 zF l0 r1 0 h1)) else none
set_option maxHeartbeats 1000000 in
theorem x_X10_wayOut_0 {l0 l1 : Int} {h : zH} {r : Int} {h' : zH} (hF : F_X10_wayOut_0 l0 l1 h = some (r, h')) : Ex 2 M_X10_wayOut 0 [some (vr 10 l0), some (vi l1), none, none] [] h (fun r1 h1 => r1 = some (vi r) ∧ h1 = h') := by
  unfold F_X10_wayOut_0 at hF
  refine ex_aload_n (q := 1) dX10_wayOut_0 rfl rfl ?_
  refine ex_iload_n (q := 2) dX10_wayOut_1 rfl rfl ?_
  obtain ⟨g2, hF⟩ := zg hF
  obtain ⟨r1, h1, e1, hF⟩ := zb_some hF
  refine ex_callV (d' := 1) (q := 5) (as := [vi l1]) (st1 := [vi r1]) (r := (some (vi r1))) (h2 := h1) dX10_wayOut_2 rfl (run_X10_nextOf e1) mc_X10_nextOf mv_X10_nextOf ml_X10_78 (by decide) g2 rfl rfl (Nat.le_of_ble_eq_true rfl) rfl ?_
  refine ex_istore_n (q := 6) (lo' := [some (vr 10 l0), some (vi l1), some (vi r1), none]) dX10_wayOut_5 rfl (by decide) rfl rfl ?_
  refine ex_iconst (q := 7) dX10_wayOut_6 rfl ⟨by decide, by decide⟩ ?_
  refine ex_istore_n (q := 8) (lo' := [some (vr 10 l0), some (vi l1), some (vi r1), some (vi 0)]) dX10_wayOut_7 rfl (by decide) rfl rfl ?_
  exact ex_forget (lo' := [some (vr 10 l0), none, some (vi r1), some (vi 0)]) ⟨Or.inr rfl, Or.inl rfl, Or.inr rfl, Or.inr rfl, trivial⟩ (x_X10_wayOut_8 _ _ _ _ _ _ _ hF)
def F_X10_wayOut (l0 l1 : Int) (h : zH) : zO := F_X10_wayOut_0 l0 l1 h
theorem run_X10_wayOut {l0 l1 : Int} {h : zH} {r : Int} {h' : zH} (hF : F_X10_wayOut l0 l1 h = some (r, h')) : Run 2 yX10_wayOut cX10_wayOut 4 (some .int) [vr 10 l0, vi l1] h (some (vi r)) h' := run_of (M := M_X10_wayOut) (by decide) rfl (fun z => by cases z) (Nat.le_of_ble_eq_true rfl) (x_X10_wayOut_0 hF)
abbrev M_X8_leaveWay : zM := (RX8, (cX8_leaveWay, (4, (none, false))))
def F_X8_leaveWay_0 (l0 l1 l2 : Int) (h : zH) : zO := if 0 ≤ l1 then (if 0 ≤ l2 then (if 0 ≤ gt h 1 l1 0 then (zb (F_X10_wayOut (gt h 1 l1 0) (gt h 0 l2 1) h) (fun r3 h3 => if 0 ≤ gt h3 1 l1 0 then (zb (F_X10_opAt (gt h3 1 l1 0) r3 h3) (fun r5 h5 => if r5 = 15 then (if 0 ≤ l0 then (zb (F_X8_step l0 h5) (fun r8 h8 => if r8 = 0 then (some (0, h8)) else (zl (pt (pt (pt h8 0 l2 3 2) 0 l2 5 (gt (pt h8 0 l2 3 2) 8 l0 12)) 0 l2 6 (gt (pt (pt h8 0 l2 3 2) 0 l2 5 (gt (pt h8 0 l2 3 2) 8 l0 12)) 8 l0 13)) (fun k11 => some (0, (pt (pt (pt k11 8 l0 12 0) 8 l0 13 (-1)) 1 l1 2 (wI (r3 + 1)))))))) else none) else (if 0 ≤ l0 then (zb (F_X8_pop l0 h5) (fun r12 h12 => if gt h12 8 l0 12 ≠ 0 then (some (0, h12)) else (some (0, (pt h12 1 l1 2 (wI (r3 + 1))))))) else none))) else none)) else none) else none) else none
set_option maxHeartbeats 1000000 in
theorem x_X8_leaveWay_0 {l0 l1 l2 : Int} {h : zH} {r : Int} {h' : zH} (hF : F_X8_leaveWay_0 l0 l1 l2 h = some (r, h')) : Ex 3 M_X8_leaveWay 0 [some (vr 8 l0), some (vr 1 l1), some (vr 0 l2), none] [] h (fun r1 h1 => r1 = none ∧ h1 = h') := by
  unfold F_X8_leaveWay_0 at hF
  refine ex_aload_n (q := 1) dX8_leaveWay_0 rfl rfl ?_
  obtain ⟨g1, hF⟩ := zg hF
  refine ex_get (q := 4) (v := vr 10 (gt h 1 l1 0)) 0 dX8_leaveWay_1 rfl fl_X8_100 g1 rfl rfl ?_
  refine ex_aload_n (q := 5) dX8_leaveWay_4 rfl rfl ?_
  obtain ⟨g2, hF⟩ := zg hF
  refine ex_get (q := 8) (v := vi (gt h 0 l2 1)) 1 dX8_leaveWay_5 rfl fl_X8_325 g2 rfl rfl ?_
  obtain ⟨g4, hF⟩ := zg hF
  obtain ⟨r3, h3, e3, hF⟩ := zb_some hF
  refine ex_callV (d' := 2) (q := 11) (as := [vi (gt h 0 l2 1)]) (st1 := [vi r3]) (r := (some (vi r3))) (h2 := h3) dX8_leaveWay_8 rfl (run_X10_wayOut e3) mc_X10_wayOut mv_X10_wayOut ml_X8_334 (by decide) g4 rfl rfl (Nat.le_of_ble_eq_true rfl) rfl ?_
  refine ex_istore_n (q := 12) (lo' := [some (vr 8 l0), some (vr 1 l1), some (vr 0 l2), some (vi r3)]) dX8_leaveWay_11 rfl (by decide) rfl rfl ?_
  refine ex_aload_n (q := 13) dX8_leaveWay_12 rfl rfl ?_
  refine ex_get (q := 16) (v := vr 10 (gt h3 1 l1 0)) 0 dX8_leaveWay_13 rfl fl_X8_100 g1 rfl rfl ?_
  refine ex_iload_n (q := 17) dX8_leaveWay_16 rfl rfl ?_
  obtain ⟨g6, hF⟩ := zg hF
  obtain ⟨r5, h5, e5, hF⟩ := zb_some hF
  refine ex_callV (d' := 1) (q := 20) (as := [vi r3]) (st1 := [vi r5]) (r := (some (vi r5))) (h2 := h5) dX8_leaveWay_17 rfl (run_X10_opAt e5) mc_X10_opAt mv_X10_opAt ml_X8_107 (by decide) g6 rfl rfl (Nat.le_of_ble_eq_true rfl) rfl ?_
  refine ex_bipush (q := 22) dX8_leaveWay_20 rfl (by decide) ⟨by decide, by decide⟩ ?_
  refine ex_icmp_eq (q := 25) (tgt := 46) dX8_leaveWay_22 rfl (by decide) (fun c7 => ?_) (fun c7 => ?_)
  · have hF := ip c7 hF
    refine ex_aload_n (q := 47) dX8_leaveWay_46 rfl rfl ?_
    obtain ⟨g9, hF⟩ := zg hF
    obtain ⟨r8, h8, e8, hF⟩ := zb_some hF
    refine ex_callV (d' := 0) (q := 50) (as := []) (st1 := [vi r8]) (r := (some (vi r8))) (h2 := h8) dX8_leaveWay_47 rfl (run_X8_step e8) mc_X8_step mv_X8_step ml_X8_118 (by decide) g9 rfl rfl (Nat.le_of_ble_eq_true rfl) rfl ?_
    refine ex_if_eq (q := 53) (tgt := 91) dX8_leaveWay_50 rfl (by decide) (fun c10 => ?_) (fun c10 => ?_)
    · have hF := ip c10 hF
      obtain ⟨rfl, rfl⟩ := zr hF
      exact ex_ret none rfl ⟨dX8_leaveWay_91, rfl⟩ ⟨rfl, rfl⟩
    · have hF := im c10 hF
      refine ex_aload_n (q := 54) dX8_leaveWay_53 rfl rfl ?_
      refine ex_iconst (q := 55) dX8_leaveWay_54 rfl ⟨by decide, by decide⟩ ?_
      refine ex_put (q := 58) 3 dX8_leaveWay_55 rfl fl_X8_307 (by decide) g2 rfl rfl (fun z => by cases z) ?_
      refine ex_aload_n (q := 59) dX8_leaveWay_58 rfl rfl ?_
      refine ex_aload_n (q := 60) dX8_leaveWay_59 rfl rfl ?_
      refine ex_get (q := 63) (v := vi (gt (pt h8 0 l2 3 2) 8 l0 12)) 12 dX8_leaveWay_60 rfl fl_X8_97 g9 rfl rfl ?_
      refine ex_put (q := 66) 5 dX8_leaveWay_63 rfl fl_X8_328 (by decide) g2 rfl rfl (fun z => by cases z) ?_
      refine ex_aload_n (q := 67) dX8_leaveWay_66 rfl rfl ?_
      refine ex_aload_n (q := 68) dX8_leaveWay_67 rfl rfl ?_
      refine ex_get (q := 71) (v := vi (gt (pt (pt h8 0 l2 3 2) 0 l2 5 (gt (pt h8 0 l2 3 2) 8 l0 12)) 8 l0 13)) 13 dX8_leaveWay_68 rfl fl_X8_42 g9 rfl rfl ?_
      refine ex_put (q := 74) 6 dX8_leaveWay_71 rfl fl_X8_331 (by decide) g2 rfl rfl (fun z => by cases z) ?_
      have hF := zl_e hF
      generalize pt (pt (pt h8 0 l2 3 2) 0 l2 5 (gt (pt h8 0 l2 3 2) 8 l0 12)) 0 l2 6 (gt (pt (pt h8 0 l2 3 2) 0 l2 5 (gt (pt h8 0 l2 3 2) 8 l0 12)) 8 l0 13) = k11 at hF ⊢
      refine ex_aload_n (q := 75) dX8_leaveWay_74 rfl rfl ?_
      refine ex_iconst (q := 76) dX8_leaveWay_75 rfl ⟨by decide, by decide⟩ ?_
      refine ex_put (q := 79) 12 dX8_leaveWay_76 rfl fl_X8_97 (by decide) g9 rfl rfl (fun z => by cases z) ?_
      refine ex_aload_n (q := 80) dX8_leaveWay_79 rfl rfl ?_
      refine ex_iconst (q := 81) dX8_leaveWay_80 rfl ⟨by decide, by decide⟩ ?_
      refine ex_put (q := 84) 13 dX8_leaveWay_81 rfl fl_X8_42 (by decide) g9 rfl rfl (fun z => by cases z) ?_
      refine ex_aload_n (q := 85) dX8_leaveWay_84 rfl rfl ?_
      refine ex_iload_n (q := 86) dX8_leaveWay_85 rfl rfl ?_
      refine ex_iconst (q := 87) dX8_leaveWay_86 rfl ⟨by decide, by decide⟩ ?_
      refine ex_iadd (q := 88) dX8_leaveWay_87 rfl ?_
      refine ex_put (q := 91) 2 dX8_leaveWay_88 rfl fl_X8_104 (by decide) g1 rfl rfl (fun z => by cases z) ?_
      obtain ⟨rfl, rfl⟩ := zr hF
      exact ex_ret none rfl ⟨dX8_leaveWay_91, rfl⟩ ⟨rfl, rfl⟩
  · have hF := im c7 hF
    refine ex_aload_n (q := 26) dX8_leaveWay_25 rfl rfl ?_
    obtain ⟨g13, hF⟩ := zg hF
    obtain ⟨r12, h12, e12, hF⟩ := zb_some hF
    refine ex_callV (d' := 0) (q := 29) (as := []) (st1 := []) (r := none) (h2 := h12) dX8_leaveWay_26 rfl (run_X8_pop e12) mc_X8_pop mv_X8_pop ml_X8_319 (by decide) g13 rfl rfl (Nat.le_of_ble_eq_true rfl) rfl ?_
    refine ex_aload_n (q := 30) dX8_leaveWay_29 rfl rfl ?_
    refine ex_get (q := 33) (v := vi (gt h12 8 l0 12)) 12 dX8_leaveWay_30 rfl fl_X8_97 g13 rfl rfl ?_
    refine ex_if_ne (q := 36) (tgt := 91) dX8_leaveWay_33 rfl (by decide) (fun c14 => ?_) (fun c14 => ?_)
    · have hF := ip c14 hF
      obtain ⟨rfl, rfl⟩ := zr hF
      exact ex_ret none rfl ⟨dX8_leaveWay_91, rfl⟩ ⟨rfl, rfl⟩
    · have hF := im c14 hF
      refine ex_aload_n (q := 37) dX8_leaveWay_36 rfl rfl ?_
      refine ex_iload_n (q := 38) dX8_leaveWay_37 rfl rfl ?_
      refine ex_iconst (q := 39) dX8_leaveWay_38 rfl ⟨by decide, by decide⟩ ?_
      refine ex_iadd (q := 40) dX8_leaveWay_39 rfl ?_
      refine ex_put (q := 43) 2 dX8_leaveWay_40 rfl fl_X8_104 (by decide) g1 rfl rfl (fun z => by cases z) ?_
      refine ex_goto (q := 91) dX8_leaveWay_43 (by decide) ?_
      obtain ⟨rfl, rfl⟩ := zr hF
      exact ex_ret none rfl ⟨dX8_leaveWay_91, rfl⟩ ⟨rfl, rfl⟩
def F_X8_leaveWay (l0 l1 l2 : Int) (h : zH) : zO := F_X8_leaveWay_0 l0 l1 l2 h
theorem run_X8_leaveWay {l0 l1 l2 : Int} {h : zH} {r : Int} {h' : zH} (hF : F_X8_leaveWay l0 l1 l2 h = some (r, h')) : Run 3 yX8_leaveWay cX8_leaveWay 4 none [vr 8 l0, vr 1 l1, vr 0 l2] h none h' := run_of (M := M_X8_leaveWay) (by decide) rfl (fun z => by cases z) (Nat.le_of_ble_eq_true rfl) (x_X8_leaveWay_0 hF)
abbrev M_X8_leaveTry : zM := (RX8, (cX8_leaveTry, (4, (none, false))))
def F_X8_leaveTry_96 (l0 l1 l2 : Int) (h : zH) : zO := if 0 ≤ l0 then (zb (F_X8_leaveWay l0 l1 l2 h) (fun r1 h1 => some (0, h1))) else none
set_option maxHeartbeats 1000000 in
theorem x_X8_leaveTry_96 {l0 l1 l2 : Int} {h : zH} {r : Int} {h' : zH} (hF : F_X8_leaveTry_96 l0 l1 l2 h = some (r, h')) : Ex 4 M_X8_leaveTry 96 [some (vr 8 l0), some (vr 1 l1), some (vr 0 l2), none] [] h (fun r1 h1 => r1 = none ∧ h1 = h') := by
  unfold F_X8_leaveTry_96 at hF
  refine ex_aload_n (q := 97) dX8_leaveTry_96 rfl rfl ?_
  refine ex_aload_n (q := 98) dX8_leaveTry_97 rfl rfl ?_
  refine ex_aload_n (q := 99) dX8_leaveTry_98 rfl rfl ?_
  obtain ⟨g2, hF⟩ := zg hF
  obtain ⟨r1, h1, e1, hF⟩ := zb_some hF
  refine ex_callV (d' := 3) (q := 102) (as := [vr 1 l1, vr 0 l2]) (st1 := []) (r := none) (h2 := h1) dX8_leaveTry_99 rfl (run_X8_leaveWay e1) mc_X8_leaveWay mv_X8_leaveWay ml_X8_313 (by decide) g2 rfl rfl (Nat.le_of_ble_eq_true rfl) rfl ?_
  obtain ⟨rfl, rfl⟩ := zr hF
  exact ex_ret none rfl ⟨dX8_leaveTry_102, rfl⟩ ⟨rfl, rfl⟩
def F_X8_leaveTry_65 (l0 l1 l2 : Int) (h : zH) : zO := if 0 ≤ l0 then (if gt h 8 l0 12 ≠ 3 then (F_X8_leaveTry_96 l0 l1 l2 h) else (if 0 ≤ l2 then (if gt h 0 l2 3 ≠ 1 then (F_X8_leaveTry_96 l0 l1 l2 h) else (if 0 ≤ gt h 8 l0 10 then (zb (F_X2_giveCause (gt h 8 l0 10) (gt h 8 l0 13) (gt h 0 l2 4) h) (fun r5 h5 => F_X8_leaveTry_96 l0 l1 l2 h5)) else none)) else none)) else none
set_option maxHeartbeats 1000000 in
theorem x_X8_leaveTry_65 {l0 l1 l2 : Int} {h : zH} {r : Int} {h' : zH} (hF : F_X8_leaveTry_65 l0 l1 l2 h = some (r, h')) : Ex 4 M_X8_leaveTry 65 [some (vr 8 l0), some (vr 1 l1), some (vr 0 l2), none] [] h (fun r1 h1 => r1 = none ∧ h1 = h') := by
  unfold F_X8_leaveTry_65 at hF
  refine ex_aload_n (q := 66) dX8_leaveTry_65 rfl rfl ?_
  obtain ⟨g1, hF⟩ := zg hF
  refine ex_get (q := 69) (v := vi (gt h 8 l0 12)) 12 dX8_leaveTry_66 rfl fl_X8_97 g1 rfl rfl ?_
  refine ex_iconst (q := 70) dX8_leaveTry_69 rfl ⟨by decide, by decide⟩ ?_
  refine ex_icmp_ne (q := 73) (tgt := 96) dX8_leaveTry_70 rfl (by decide) (fun c2 => ?_) (fun c2 => ?_)
  · have hF := ip c2 hF
    exact ex_forget (lo' := [some (vr 8 l0), some (vr 1 l1), some (vr 0 l2), none]) ⟨Or.inr rfl, Or.inr rfl, Or.inr rfl, Or.inl rfl, trivial⟩ (x_X8_leaveTry_96 hF)
  · have hF := im c2 hF
    refine ex_aload_n (q := 74) dX8_leaveTry_73 rfl rfl ?_
    obtain ⟨g3, hF⟩ := zg hF
    refine ex_get (q := 77) (v := vi (gt h 0 l2 3)) 3 dX8_leaveTry_74 rfl fl_X8_307 g3 rfl rfl ?_
    refine ex_iconst (q := 78) dX8_leaveTry_77 rfl ⟨by decide, by decide⟩ ?_
    refine ex_icmp_ne (q := 81) (tgt := 96) dX8_leaveTry_78 rfl (by decide) (fun c4 => ?_) (fun c4 => ?_)
    · have hF := ip c4 hF
      exact ex_forget (lo' := [some (vr 8 l0), some (vr 1 l1), some (vr 0 l2), none]) ⟨Or.inr rfl, Or.inr rfl, Or.inr rfl, Or.inl rfl, trivial⟩ (x_X8_leaveTry_96 hF)
    · have hF := im c4 hF
      refine ex_aload_n (q := 82) dX8_leaveTry_81 rfl rfl ?_
      refine ex_get (q := 85) (v := vr 2 (gt h 8 l0 10)) 10 dX8_leaveTry_82 rfl fl_X8_38 g1 rfl rfl ?_
      refine ex_aload_n (q := 86) dX8_leaveTry_85 rfl rfl ?_
      refine ex_get (q := 89) (v := vi (gt h 8 l0 13)) 13 dX8_leaveTry_86 rfl fl_X8_42 g1 rfl rfl ?_
      refine ex_aload_n (q := 90) dX8_leaveTry_89 rfl rfl ?_
      refine ex_get (q := 93) (v := vi (gt h 0 l2 4)) 4 dX8_leaveTry_90 rfl fl_X8_361 g3 rfl rfl ?_
      obtain ⟨g6, hF⟩ := zg hF
      obtain ⟨r5, h5, e5, hF⟩ := zb_some hF
      refine ex_callV (d' := 1) (q := 96) (as := [vi (gt h 8 l0 13), vi (gt h 0 l2 4)]) (st1 := []) (r := none) (h2 := h5) dX8_leaveTry_93 rfl (run_X2_giveCause e5) mc_X2_giveCause mv_X2_giveCause ml_X8_364 (by decide) g6 rfl rfl (Nat.le_of_ble_eq_true rfl) rfl ?_
      exact ex_forget (lo' := [some (vr 8 l0), some (vr 1 l1), some (vr 0 l2), none]) ⟨Or.inr rfl, Or.inr rfl, Or.inr rfl, Or.inl rfl, trivial⟩ (x_X8_leaveTry_96 hF)
def F_X8_leaveTry_0 (l0 l1 l2 : Int) (h : zH) : zO := if 0 ≤ l2 then (if gt h 0 l2 3 ≠ 2 then (if 0 ≤ l0 then (if gt h 8 l0 12 ≠ 3 then (F_X8_leaveTry_65 l0 l1 l2 h) else (if gt h 0 l2 3 ≠ 0 then (F_X8_leaveTry_65 l0 l1 l2 h) else (if 0 ≤ l1 then (if 0 ≤ gt h 8 l0 10 then (zb (F_X2_kindOf (gt h 8 l0 10) (gt h 8 l0 13) h) (fun r7 h7 => if 0 ≤ gt h 1 l1 0 then (zb (F_X10_guardFor (gt h 1 l1 0) (gt h 0 l2 1) r7 h7) (fun r9 h9 => if r9 = (-1) then (F_X8_leaveTry_65 l0 l1 l2 h9) else (zb (F_X8_beginWay l0 l1 l2 r9 h9) (fun r12 h12 => some (0, h12))))) else none)) else none) else none))) else none) else (if 0 ≤ l0 then (zb (F_X8_leaveLastWay l0 l2 h) (fun r13 h13 => some (0, h13))) else none)) else none
set_option maxHeartbeats 1000000 in
theorem x_X8_leaveTry_0 {l0 l1 l2 : Int} {h : zH} {r : Int} {h' : zH} (hF : F_X8_leaveTry_0 l0 l1 l2 h = some (r, h')) : Ex 4 M_X8_leaveTry 0 [some (vr 8 l0), some (vr 1 l1), some (vr 0 l2), none] [] h (fun r1 h1 => r1 = none ∧ h1 = h') := by
  unfold F_X8_leaveTry_0 at hF
  refine ex_aload_n (q := 1) dX8_leaveTry_0 rfl rfl ?_
  obtain ⟨g1, hF⟩ := zg hF
  refine ex_get (q := 4) (v := vi (gt h 0 l2 3)) 3 dX8_leaveTry_1 rfl fl_X8_307 g1 rfl rfl ?_
  refine ex_iconst (q := 5) dX8_leaveTry_4 rfl ⟨by decide, by decide⟩ ?_
  refine ex_icmp_ne (q := 8) (tgt := 14) dX8_leaveTry_5 rfl (by decide) (fun c2 => ?_) (fun c2 => ?_)
  · have hF := ip c2 hF
    refine ex_aload_n (q := 15) dX8_leaveTry_14 rfl rfl ?_
    obtain ⟨g3, hF⟩ := zg hF
    refine ex_get (q := 18) (v := vi (gt h 8 l0 12)) 12 dX8_leaveTry_15 rfl fl_X8_97 g3 rfl rfl ?_
    refine ex_iconst (q := 19) dX8_leaveTry_18 rfl ⟨by decide, by decide⟩ ?_
    refine ex_icmp_ne (q := 22) (tgt := 65) dX8_leaveTry_19 rfl (by decide) (fun c4 => ?_) (fun c4 => ?_)
    · have hF := ip c4 hF
      exact ex_forget (lo' := [some (vr 8 l0), some (vr 1 l1), some (vr 0 l2), none]) ⟨Or.inr rfl, Or.inr rfl, Or.inr rfl, Or.inl rfl, trivial⟩ (x_X8_leaveTry_65 hF)
    · have hF := im c4 hF
      refine ex_aload_n (q := 23) dX8_leaveTry_22 rfl rfl ?_
      refine ex_get (q := 26) (v := vi (gt h 0 l2 3)) 3 dX8_leaveTry_23 rfl fl_X8_307 g1 rfl rfl ?_
      refine ex_if_ne (q := 29) (tgt := 65) dX8_leaveTry_26 rfl (by decide) (fun c5 => ?_) (fun c5 => ?_)
      · have hF := ip c5 hF
        exact ex_forget (lo' := [some (vr 8 l0), some (vr 1 l1), some (vr 0 l2), none]) ⟨Or.inr rfl, Or.inr rfl, Or.inr rfl, Or.inl rfl, trivial⟩ (x_X8_leaveTry_65 hF)
      · have hF := im c5 hF
        refine ex_aload_n (q := 30) dX8_leaveTry_29 rfl rfl ?_
        obtain ⟨g6, hF⟩ := zg hF
        refine ex_get (q := 33) (v := vr 10 (gt h 1 l1 0)) 0 dX8_leaveTry_30 rfl fl_X8_100 g6 rfl rfl ?_
        refine ex_aload_n (q := 34) dX8_leaveTry_33 rfl rfl ?_
        refine ex_get (q := 37) (v := vi (gt h 0 l2 1)) 1 dX8_leaveTry_34 rfl fl_X8_325 g1 rfl rfl ?_
        refine ex_aload_n (q := 38) dX8_leaveTry_37 rfl rfl ?_
        refine ex_get (q := 41) (v := vr 2 (gt h 8 l0 10)) 10 dX8_leaveTry_38 rfl fl_X8_38 g3 rfl rfl ?_
        refine ex_aload_n (q := 42) dX8_leaveTry_41 rfl rfl ?_
        refine ex_get (q := 45) (v := vi (gt h 8 l0 13)) 13 dX8_leaveTry_42 rfl fl_X8_42 g3 rfl rfl ?_
        obtain ⟨g8, hF⟩ := zg hF
        obtain ⟨r7, h7, e7, hF⟩ := zb_some hF
        refine ex_callV (d' := 1) (q := 48) (as := [vi (gt h 8 l0 13)]) (st1 := [vi r7, vi (gt h 0 l2 1), vr 10 (gt h 1 l1 0)]) (r := (some (vi r7))) (h2 := h7) dX8_leaveTry_45 rfl (run_X2_kindOf e7) mc_X2_kindOf mv_X2_kindOf ml_X8_350 (by decide) g8 rfl rfl (Nat.le_of_ble_eq_true rfl) rfl ?_
        obtain ⟨g10, hF⟩ := zg hF
        obtain ⟨r9, h9, e9, hF⟩ := zb_some hF
        refine ex_callV (d' := 2) (q := 51) (as := [vi (gt h 0 l2 1), vi r7]) (st1 := [vi r9]) (r := (some (vi r9))) (h2 := h9) dX8_leaveTry_48 rfl (run_X10_guardFor e9) mc_X10_guardFor mv_X10_guardFor ml_X8_353 (by decide) g10 rfl rfl (Nat.le_of_ble_eq_true rfl) rfl ?_
        refine ex_istore_n (q := 52) (lo' := [some (vr 8 l0), some (vr 1 l1), some (vr 0 l2), some (vi r9)]) dX8_leaveTry_51 rfl (by decide) rfl rfl ?_
        refine ex_iload_n (q := 53) dX8_leaveTry_52 rfl rfl ?_
        refine ex_iconst (q := 54) dX8_leaveTry_53 rfl ⟨by decide, by decide⟩ ?_
        refine ex_icmp_eq (q := 57) (tgt := 65) dX8_leaveTry_54 rfl (by decide) (fun c11 => ?_) (fun c11 => ?_)
        · have hF := ip c11 hF
          exact ex_forget (lo' := [some (vr 8 l0), some (vr 1 l1), some (vr 0 l2), none]) ⟨Or.inr rfl, Or.inr rfl, Or.inr rfl, Or.inl rfl, trivial⟩ (x_X8_leaveTry_65 hF)
        · have hF := im c11 hF
          refine ex_aload_n (q := 58) dX8_leaveTry_57 rfl rfl ?_
          refine ex_aload_n (q := 59) dX8_leaveTry_58 rfl rfl ?_
          refine ex_aload_n (q := 60) dX8_leaveTry_59 rfl rfl ?_
          refine ex_iload_n (q := 61) dX8_leaveTry_60 rfl rfl ?_
          obtain ⟨r12, h12, e12, hF⟩ := zb_some hF
          refine ex_callV (d' := 1) (q := 64) (as := [vr 1 l1, vr 0 l2, vi r9]) (st1 := []) (r := none) (h2 := h12) dX8_leaveTry_61 rfl (run_X8_beginWay e12) mc_X8_beginWay mv_X8_beginWay ml_X8_357 (by decide) g3 rfl rfl (Nat.le_of_ble_eq_true rfl) rfl ?_
          obtain ⟨rfl, rfl⟩ := zr hF
          exact ex_ret none rfl ⟨dX8_leaveTry_64, rfl⟩ ⟨rfl, rfl⟩
  · have hF := im c2 hF
    refine ex_aload_n (q := 9) dX8_leaveTry_8 rfl rfl ?_
    refine ex_aload_n (q := 10) dX8_leaveTry_9 rfl rfl ?_
    obtain ⟨g14, hF⟩ := zg hF
    obtain ⟨r13, h13, e13, hF⟩ := zb_some hF
    refine ex_callV (d' := 2) (q := 13) (as := [vr 0 l2]) (st1 := []) (r := none) (h2 := h13) dX8_leaveTry_10 rfl (run_X8_leaveLastWay e13) mc_X8_leaveLastWay mv_X8_leaveLastWay ml_X8_346 (by decide) g14 rfl rfl (Nat.le_of_ble_eq_true rfl) rfl ?_
    obtain ⟨rfl, rfl⟩ := zr hF
    exact ex_ret none rfl ⟨dX8_leaveTry_13, rfl⟩ ⟨rfl, rfl⟩
def F_X8_leaveTry (l0 l1 l2 : Int) (h : zH) : zO := F_X8_leaveTry_0 l0 l1 l2 h
theorem run_X8_leaveTry {l0 l1 l2 : Int} {h : zH} {r : Int} {h' : zH} (hF : F_X8_leaveTry l0 l1 l2 h = some (r, h')) : Run 4 yX8_leaveTry cX8_leaveTry 4 none [vr 8 l0, vr 1 l1, vr 0 l2] h none h' := run_of (M := M_X8_leaveTry) (by decide) rfl (fun z => by cases z) (Nat.le_of_ble_eq_true rfl) (x_X8_leaveTry_0 hF)
abbrev M_X8_leaveAct : zM := (RX8, (cX8_leaveAct, (1, (none, false))))
def F_X8_leaveAct_0 (l0 : Int) (h : zH) : zO := if 0 ≤ l0 then (zb (F_X8_endInnermost l0 h) (fun r1 h1 => if gt h1 8 l0 12 ≠ 4 then (zb (F_X8_pop l0 h1) (fun r4 h4 => if gt (pt h4 8 l0 3 (wI ((gt h4 8 l0 3) - 1))) 8 l0 12 ≠ 1 then (some (0, (pt h4 8 l0 3 (wI ((gt h4 8 l0 3) - 1))))) else (if 0 ≤ gt (pt (pt h4 8 l0 3 (wI ((gt h4 8 l0 3) - 1))) 8 l0 12 0) 8 l0 2 then (if 0 ≤ gt (pt (pt h4 8 l0 3 (wI ((gt h4 8 l0 3) - 1))) 8 l0 12 0) 8 l0 3 ∧ gt (pt (pt h4 8 l0 3 (wI ((gt h4 8 l0 3) - 1))) 8 l0 12 0) 8 l0 3 < 11 then (if 0 ≤ gt (pt (pt h4 8 l0 3 (wI ((gt h4 8 l0 3) - 1))) 8 l0 12 0) 39 (gt (pt (pt h4 8 l0 3 (wI ((gt h4 8 l0 3) - 1))) 8 l0 12 0) 8 l0 2) (gt (pt (pt h4 8 l0 3 (wI ((gt h4 8 l0 3) - 1))) 8 l0 12 0) 8 l0 3) then (zl (pt (pt (pt h4 8 l0 3 (wI ((gt h4 8 l0 3) - 1))) 8 l0 12 0) 1 (gt (pt (pt h4 8 l0 3 (wI ((gt h4 8 l0 3) - 1))) 8 l0 12 0) 39 (gt (pt (pt h4 8 l0 3 (wI ((gt h4 8 l0 3) - 1))) 8 l0 12 0) 8 l0 2) (gt (pt (pt h4 8 l0 3 (wI ((gt h4 8 l0 3) - 1))) 8 l0 12 0) 8 l0 3)) 2 (wI ((gt (pt (pt h4 8 l0 3 (wI ((gt h4 8 l0 3) - 1))) 8 l0 12 0) 1 (gt (pt (pt h4 8 l0 3 (wI ((gt h4 8 l0 3) - 1))) 8 l0 12 0) 39 (gt (pt (pt h4 8 l0 3 (wI ((gt h4 8 l0 3) - 1))) 8 l0 12 0) 8 l0 2) (gt (pt (pt h4 8 l0 3 (wI ((gt h4 8 l0 3) - 1))) 8 l0 12 0) 8 l0 3)) 2) + 1))) (fun k9 => some (0, k9))) else none) else none) else none))) else (some (0, h1)))) else none
set_option maxHeartbeats 1000000 in
theorem x_X8_leaveAct_0 {l0 : Int} {h : zH} {r : Int} {h' : zH} (hF : F_X8_leaveAct_0 l0 h = some (r, h')) : Ex 4 M_X8_leaveAct 0 [some (vr 8 l0)] [] h (fun r1 h1 => r1 = none ∧ h1 = h') := by
  unfold F_X8_leaveAct_0 at hF
  refine ex_aload_n (q := 1) dX8_leaveAct_0 rfl rfl ?_
  obtain ⟨g2, hF⟩ := zg hF
  obtain ⟨r1, h1, e1, hF⟩ := zb_some hF
  refine ex_callV (d' := 3) (q := 4) (as := []) (st1 := []) (r := none) (h2 := h1) dX8_leaveAct_1 rfl (run_X8_endInnermost e1) mc_X8_endInnermost mv_X8_endInnermost ml_X8_316 (by decide) g2 rfl rfl (Nat.le_of_ble_eq_true rfl) rfl ?_
  refine ex_aload_n (q := 5) dX8_leaveAct_4 rfl rfl ?_
  refine ex_get (q := 8) (v := vi (gt h1 8 l0 12)) 12 dX8_leaveAct_5 rfl fl_X8_97 g2 rfl rfl ?_
  refine ex_iconst (q := 9) dX8_leaveAct_8 rfl ⟨by decide, by decide⟩ ?_
  refine ex_icmp_ne (q := 12) (tgt := 13) dX8_leaveAct_9 rfl (by decide) (fun c3 => ?_) (fun c3 => ?_)
  · have hF := ip c3 hF
    refine ex_aload_n (q := 14) dX8_leaveAct_13 rfl rfl ?_
    obtain ⟨r4, h4, e4, hF⟩ := zb_some hF
    refine ex_callV (d' := 0) (q := 17) (as := []) (st1 := []) (r := none) (h2 := h4) dX8_leaveAct_14 rfl (run_X8_pop e4) mc_X8_pop mv_X8_pop ml_X8_319 (by decide) g2 rfl rfl (Nat.le_of_ble_eq_true rfl) rfl ?_
    refine ex_aload_n (q := 18) dX8_leaveAct_17 rfl rfl ?_
    refine ex_dup (q := 19) dX8_leaveAct_18 rfl (fun _ z => by cases z) ?_
    refine ex_get (q := 22) (v := vi (gt h4 8 l0 3)) 3 dX8_leaveAct_19 rfl fl_X8_94 g2 rfl rfl ?_
    refine ex_iconst (q := 23) dX8_leaveAct_22 rfl ⟨by decide, by decide⟩ ?_
    refine ex_isub (q := 24) dX8_leaveAct_23 rfl ?_
    refine ex_put (q := 27) 3 dX8_leaveAct_24 rfl fl_X8_94 (by decide) g2 rfl rfl (fun z => by cases z) ?_
    refine ex_aload_n (q := 28) dX8_leaveAct_27 rfl rfl ?_
    refine ex_get (q := 31) (v := vi (gt (pt h4 8 l0 3 (wI ((gt h4 8 l0 3) - 1))) 8 l0 12)) 12 dX8_leaveAct_28 rfl fl_X8_97 g2 rfl rfl ?_
    refine ex_iconst (q := 32) dX8_leaveAct_31 rfl ⟨by decide, by decide⟩ ?_
    refine ex_icmp_ne (q := 35) (tgt := 58) dX8_leaveAct_32 rfl (by decide) (fun c5 => ?_) (fun c5 => ?_)
    · have hF := ip c5 hF
      obtain ⟨rfl, rfl⟩ := zr hF
      exact ex_ret none rfl ⟨dX8_leaveAct_58, rfl⟩ ⟨rfl, rfl⟩
    · have hF := im c5 hF
      refine ex_aload_n (q := 36) dX8_leaveAct_35 rfl rfl ?_
      refine ex_iconst (q := 37) dX8_leaveAct_36 rfl ⟨by decide, by decide⟩ ?_
      refine ex_put (q := 40) 12 dX8_leaveAct_37 rfl fl_X8_97 (by decide) g2 rfl rfl (fun z => by cases z) ?_
      refine ex_aload_n (q := 41) dX8_leaveAct_40 rfl rfl ?_
      refine ex_get (q := 44) (v := vr 39 (gt (pt (pt h4 8 l0 3 (wI ((gt h4 8 l0 3) - 1))) 8 l0 12 0) 8 l0 2)) 2 dX8_leaveAct_41 rfl fl_X8_11 g2 rfl rfl ?_
      refine ex_aload_n (q := 45) dX8_leaveAct_44 rfl rfl ?_
      refine ex_get (q := 48) (v := vi (gt (pt (pt h4 8 l0 3 (wI ((gt h4 8 l0 3) - 1))) 8 l0 12 0) 8 l0 3)) 3 dX8_leaveAct_45 rfl fl_X8_94 g2 rfl rfl ?_
      obtain ⟨g6, hF⟩ := zg hF
      obtain ⟨g7, hF⟩ := zg hF
      refine ex_aald (q := 49) 1 dX8_leaveAct_48 rfl kd_39 (by decide) g6 g7.1 g7.2 ?_
      refine ex_dup (q := 50) dX8_leaveAct_49 rfl (fun _ z => by cases z) ?_
      obtain ⟨g8, hF⟩ := zg hF
      refine ex_get (q := 53) (v := vi (gt (pt (pt h4 8 l0 3 (wI ((gt h4 8 l0 3) - 1))) 8 l0 12 0) 1 (gt (pt (pt h4 8 l0 3 (wI ((gt h4 8 l0 3) - 1))) 8 l0 12 0) 39 (gt (pt (pt h4 8 l0 3 (wI ((gt h4 8 l0 3) - 1))) 8 l0 12 0) 8 l0 2) (gt (pt (pt h4 8 l0 3 (wI ((gt h4 8 l0 3) - 1))) 8 l0 12 0) 8 l0 3)) 2)) 2 dX8_leaveAct_50 rfl fl_X8_104 g8 rfl rfl ?_
      refine ex_iconst (q := 54) dX8_leaveAct_53 rfl ⟨by decide, by decide⟩ ?_
      refine ex_iadd (q := 55) dX8_leaveAct_54 rfl ?_
      refine ex_put (q := 58) 2 dX8_leaveAct_55 rfl fl_X8_104 (by decide) g8 rfl rfl (fun z => by cases z) ?_
      have hF := zl_e hF
      generalize pt (pt (pt h4 8 l0 3 (wI ((gt h4 8 l0 3) - 1))) 8 l0 12 0) 1 (gt (pt (pt h4 8 l0 3 (wI ((gt h4 8 l0 3) - 1))) 8 l0 12 0) 39 (gt (pt (pt h4 8 l0 3 (wI ((gt h4 8 l0 3) - 1))) 8 l0 12 0) 8 l0 2) (gt (pt (pt h4 8 l0 3 (wI ((gt h4 8 l0 3) - 1))) 8 l0 12 0) 8 l0 3)) 2 (wI ((gt (pt (pt h4 8 l0 3 (wI ((gt h4 8 l0 3) - 1))) 8 l0 12 0) 1 (gt (pt (pt h4 8 l0 3 (wI ((gt h4 8 l0 3) - 1))) 8 l0 12 0) 39 (gt (pt (pt h4 8 l0 3 (wI ((gt h4 8 l0 3) - 1))) 8 l0 12 0) 8 l0 2) (gt (pt (pt h4 8 l0 3 (wI ((gt h4 8 l0 3) - 1))) 8 l0 12 0) 8 l0 3)) 2) + 1)) = k9 at hF ⊢
      obtain ⟨rfl, rfl⟩ := zr hF
      exact ex_ret none rfl ⟨dX8_leaveAct_58, rfl⟩ ⟨rfl, rfl⟩
  · have hF := im c3 hF
    obtain ⟨rfl, rfl⟩ := zr hF
    exact ex_ret none rfl ⟨dX8_leaveAct_12, rfl⟩ ⟨rfl, rfl⟩
def F_X8_leaveAct (l0 : Int) (h : zH) : zO := F_X8_leaveAct_0 l0 h
theorem run_X8_leaveAct {l0 : Int} {h : zH} {r : Int} {h' : zH} (hF : F_X8_leaveAct l0 h = some (r, h')) : Run 4 yX8_leaveAct cX8_leaveAct 1 none [vr 8 l0] h none h' := run_of (M := M_X8_leaveAct) (by decide) rfl (fun z => by cases z) (Nat.le_of_ble_eq_true rfl) (x_X8_leaveAct_0 hF)
abbrev M_X8_leave : zM := (RX8, (cX8_leave, (3, (none, false))))
def F_X8_leave_0 (l0 l1 : Int) (h : zH) : zO := if 0 ≤ l0 then (if 0 ≤ gt h 8 l0 4 then (if 0 ≤ gt h 8 l0 5 ∧ gt h 8 l0 5 < 91 then (if 0 ≤ gt h 40 (gt h 8 l0 4) (gt h 8 l0 5) then (if gt h 0 (gt h 40 (gt h 8 l0 4) (gt h 8 l0 5)) 0 = 11 then (zb (F_X8_leaveLoop l0 l1 (gt h 40 (gt h 8 l0 4) (gt h 8 l0 5)) h) (fun r6 h6 => some (0, h6))) else (if gt h 0 (gt h 40 (gt h 8 l0 4) (gt h 8 l0 5)) 0 = 12 then (zb (F_X8_endScopeBlock l0 l1 h) (fun r8 h8 => some (0, h8))) else (if gt h 0 (gt h 40 (gt h 8 l0 4) (gt h 8 l0 5)) 0 = 13 then (zb (F_X8_leaveTry l0 l1 (gt h 40 (gt h 8 l0 4) (gt h 8 l0 5)) h) (fun r10 h10 => some (0, h10))) else (zb (F_X8_leaveAct l0 h) (fun r11 h11 => some (0, h11)))))) else none) else none) else none) else none
set_option maxHeartbeats 1000000 in
theorem x_X8_leave_0 {l0 l1 : Int} {h : zH} {r : Int} {h' : zH} (hF : F_X8_leave_0 l0 l1 h = some (r, h')) : Ex 5 M_X8_leave 0 [some (vr 8 l0), some (vr 1 l1), none] [] h (fun r1 h1 => r1 = none ∧ h1 = h') := by
  unfold F_X8_leave_0 at hF
  refine ex_aload_n (q := 1) dX8_leave_0 rfl rfl ?_
  obtain ⟨g1, hF⟩ := zg hF
  refine ex_get (q := 4) (v := vr 40 (gt h 8 l0 4)) 4 dX8_leave_1 rfl fl_X8_19 g1 rfl rfl ?_
  refine ex_aload_n (q := 5) dX8_leave_4 rfl rfl ?_
  refine ex_get (q := 8) (v := vi (gt h 8 l0 5)) 5 dX8_leave_5 rfl fl_X8_132 g1 rfl rfl ?_
  obtain ⟨g2, hF⟩ := zg hF
  obtain ⟨g3, hF⟩ := zg hF
  refine ex_aald (q := 9) 0 dX8_leave_8 rfl kd_40 (by decide) g2 g3.1 g3.2 ?_
  refine ex_astore_n (q := 10) (lo' := [some (vr 8 l0), some (vr 1 l1), some (vr 0 (gt h 40 (gt h 8 l0 4) (gt h 8 l0 5)))]) dX8_leave_9 rfl (by decide) rfl rfl ?_
  refine ex_aload_n (q := 11) dX8_leave_10 rfl rfl ?_
  obtain ⟨g4, hF⟩ := zg hF
  refine ex_get (q := 14) (v := vi (gt h 0 (gt h 40 (gt h 8 l0 4) (gt h 8 l0 5)) 0)) 0 dX8_leave_11 rfl fl_X8_297 g4 rfl rfl ?_
  by_cases c5 : gt h 0 (gt h 40 (gt h 8 l0 4) (gt h 8 l0 5)) 0 = 11
  · have hF := ip c5 hF
    refine ex_tsw 11 (tgt := 48) dX8_leave_14 c5 (by decide) (by decide) rfl (by decide) ?_
    refine ex_aload_n (q := 49) dX8_leave_48 rfl rfl ?_
    refine ex_aload_n (q := 50) dX8_leave_49 rfl rfl ?_
    refine ex_aload_n (q := 51) dX8_leave_50 rfl rfl ?_
    obtain ⟨r6, h6, e6, hF⟩ := zb_some hF
    refine ex_callV (d' := 2) (q := 54) (as := [vr 1 l1, vr 0 (gt h 40 (gt h 8 l0 4) (gt h 8 l0 5))]) (st1 := []) (r := none) (h2 := h6) dX8_leave_51 rfl (run_X8_leaveLoop e6) mc_X8_leaveLoop mv_X8_leaveLoop ml_X8_337 (by decide) g1 rfl rfl (Nat.le_of_ble_eq_true rfl) rfl ?_
    refine ex_goto (q := 70) dX8_leave_54 (by decide) ?_
    obtain ⟨rfl, rfl⟩ := zr hF
    exact ex_ret none rfl ⟨dX8_leave_70, rfl⟩ ⟨rfl, rfl⟩
  · have hF := im c5 hF
    by_cases c7 : gt h 0 (gt h 40 (gt h 8 l0 4) (gt h 8 l0 5)) 0 = 12
    · have hF := ip c7 hF
      refine ex_tsw 12 (tgt := 40) dX8_leave_14 c7 (by decide) (by decide) rfl (by decide) ?_
      refine ex_aload_n (q := 41) dX8_leave_40 rfl rfl ?_
      refine ex_aload_n (q := 42) dX8_leave_41 rfl rfl ?_
      obtain ⟨r8, h8, e8, hF⟩ := zb_some hF
      refine ex_callV (d' := 4) (q := 45) (as := [vr 1 l1]) (st1 := []) (r := none) (h2 := h8) dX8_leave_42 rfl (run_X8_endScopeBlock e8) mc_X8_endScopeBlock mv_X8_endScopeBlock ml_X8_300 (by decide) g1 rfl rfl (Nat.le_of_ble_eq_true rfl) rfl ?_
      refine ex_goto (q := 70) dX8_leave_45 (by decide) ?_
      obtain ⟨rfl, rfl⟩ := zr hF
      exact ex_ret none rfl ⟨dX8_leave_70, rfl⟩ ⟨rfl, rfl⟩
    · have hF := im c7 hF
      by_cases c9 : gt h 0 (gt h 40 (gt h 8 l0 4) (gt h 8 l0 5)) 0 = 13
      · have hF := ip c9 hF
        refine ex_tsw 13 (tgt := 57) dX8_leave_14 c9 (by decide) (by decide) rfl (by decide) ?_
        refine ex_aload_n (q := 58) dX8_leave_57 rfl rfl ?_
        refine ex_aload_n (q := 59) dX8_leave_58 rfl rfl ?_
        refine ex_aload_n (q := 60) dX8_leave_59 rfl rfl ?_
        obtain ⟨r10, h10, e10, hF⟩ := zb_some hF
        refine ex_callV (d' := 4) (q := 63) (as := [vr 1 l1, vr 0 (gt h 40 (gt h 8 l0 4) (gt h 8 l0 5))]) (st1 := []) (r := none) (h2 := h10) dX8_leave_60 rfl (run_X8_leaveTry e10) mc_X8_leaveTry mv_X8_leaveTry ml_X8_340 (by decide) g1 rfl rfl (Nat.le_of_ble_eq_true rfl) rfl ?_
        refine ex_goto (q := 70) dX8_leave_63 (by decide) ?_
        obtain ⟨rfl, rfl⟩ := zr hF
        exact ex_ret none rfl ⟨dX8_leave_70, rfl⟩ ⟨rfl, rfl⟩
      · have hF := im c9 hF
        refine ex_tswD (tgt := 66) dX8_leave_14 (by omega) (by decide) ?_
        refine ex_aload_n (q := 67) dX8_leave_66 rfl rfl ?_
        obtain ⟨r11, h11, e11, hF⟩ := zb_some hF
        refine ex_callV (d' := 4) (q := 70) (as := []) (st1 := []) (r := none) (h2 := h11) dX8_leave_67 rfl (run_X8_leaveAct e11) mc_X8_leaveAct mv_X8_leaveAct ml_X8_343 (by decide) g1 rfl rfl (Nat.le_of_ble_eq_true rfl) rfl ?_
        obtain ⟨rfl, rfl⟩ := zr hF
        exact ex_ret none rfl ⟨dX8_leave_70, rfl⟩ ⟨rfl, rfl⟩
def F_X8_leave (l0 l1 : Int) (h : zH) : zO := F_X8_leave_0 l0 l1 h
theorem run_X8_leave {l0 l1 : Int} {h : zH} {r : Int} {h' : zH} (hF : F_X8_leave l0 l1 h = some (r, h')) : Run 5 yX8_leave cX8_leave 3 none [vr 8 l0, vr 1 l1] h none h' := run_of (M := M_X8_leave) (by decide) rfl (fun z => by cases z) (Nat.le_of_ble_eq_true rfl) (x_X8_leave_0 hF)
abbrev M_X8_endTurn : zM := (RX8, (cX8_endTurn, (3, (none, false))))
def F_X8_endTurn_0 (l0 l1 l2 : Int) (h : zH) : zO := if 0 ≤ l2 then (if 0 < gt h 0 l2 2 then (if 0 ≤ l0 then (zb (F_X8_step l0 h) (fun r3 h3 => if r3 = 0 then (some (0, h3)) else (if 0 ≤ l1 then (some (0, (pt (pt h3 0 l2 2 (wI ((gt h3 0 l2 2) - 1))) 1 l1 2 (wI ((gt (pt h3 0 l2 2 (wI ((gt h3 0 l2 2) - 1))) 0 l2 1) + 1))))) else none))) else none) else (if 0 ≤ l0 then (zb (F_X8_pop l0 h) (fun r7 h7 => if 0 ≤ l1 then (some (0, (pt h7 1 l1 2 (wI ((gt h7 1 l1 2) + 1))))) else none)) else none)) else none
set_option maxHeartbeats 1000000 in
theorem x_X8_endTurn_0 {l0 l1 l2 : Int} {h : zH} {r : Int} {h' : zH} (hF : F_X8_endTurn_0 l0 l1 l2 h = some (r, h')) : Ex 1 M_X8_endTurn 0 [some (vr 8 l0), some (vr 1 l1), some (vr 0 l2)] [] h (fun r1 h1 => r1 = none ∧ h1 = h') := by
  unfold F_X8_endTurn_0 at hF
  refine ex_aload_n (q := 1) dX8_endTurn_0 rfl rfl ?_
  obtain ⟨g1, hF⟩ := zg hF
  refine ex_get (q := 4) (v := vi (gt h 0 l2 2)) 2 dX8_endTurn_1 rfl fl_X8_322 g1 rfl rfl ?_
  refine ex_if_gt (q := 7) (tgt := 24) dX8_endTurn_4 rfl (by decide) (fun c2 => ?_) (fun c2 => ?_)
  · have hF := ip c2 hF
    refine ex_aload_n (q := 25) dX8_endTurn_24 rfl rfl ?_
    obtain ⟨g4, hF⟩ := zg hF
    obtain ⟨r3, h3, e3, hF⟩ := zb_some hF
    refine ex_callV (d' := 0) (q := 28) (as := []) (st1 := [vi r3]) (r := (some (vi r3))) (h2 := h3) dX8_endTurn_25 rfl (run_X8_step e3) mc_X8_step mv_X8_step ml_X8_118 (by decide) g4 rfl rfl (Nat.le_of_ble_eq_true rfl) rfl ?_
    refine ex_if_eq (q := 31) (tgt := 51) dX8_endTurn_28 rfl (by decide) (fun c5 => ?_) (fun c5 => ?_)
    · have hF := ip c5 hF
      obtain ⟨rfl, rfl⟩ := zr hF
      exact ex_ret none rfl ⟨dX8_endTurn_51, rfl⟩ ⟨rfl, rfl⟩
    · have hF := im c5 hF
      refine ex_aload_n (q := 32) dX8_endTurn_31 rfl rfl ?_
      refine ex_dup (q := 33) dX8_endTurn_32 rfl (fun _ z => by cases z) ?_
      refine ex_get (q := 36) (v := vi (gt h3 0 l2 2)) 2 dX8_endTurn_33 rfl fl_X8_322 g1 rfl rfl ?_
      refine ex_iconst (q := 37) dX8_endTurn_36 rfl ⟨by decide, by decide⟩ ?_
      refine ex_isub (q := 38) dX8_endTurn_37 rfl ?_
      refine ex_put (q := 41) 2 dX8_endTurn_38 rfl fl_X8_322 (by decide) g1 rfl rfl (fun z => by cases z) ?_
      refine ex_aload_n (q := 42) dX8_endTurn_41 rfl rfl ?_
      refine ex_aload_n (q := 43) dX8_endTurn_42 rfl rfl ?_
      refine ex_get (q := 46) (v := vi (gt (pt h3 0 l2 2 (wI ((gt h3 0 l2 2) - 1))) 0 l2 1)) 1 dX8_endTurn_43 rfl fl_X8_325 g1 rfl rfl ?_
      refine ex_iconst (q := 47) dX8_endTurn_46 rfl ⟨by decide, by decide⟩ ?_
      refine ex_iadd (q := 48) dX8_endTurn_47 rfl ?_
      obtain ⟨g6, hF⟩ := zg hF
      refine ex_put (q := 51) 2 dX8_endTurn_48 rfl fl_X8_104 (by decide) g6 rfl rfl (fun z => by cases z) ?_
      obtain ⟨rfl, rfl⟩ := zr hF
      exact ex_ret none rfl ⟨dX8_endTurn_51, rfl⟩ ⟨rfl, rfl⟩
  · have hF := im c2 hF
    refine ex_aload_n (q := 8) dX8_endTurn_7 rfl rfl ?_
    obtain ⟨g8, hF⟩ := zg hF
    obtain ⟨r7, h7, e7, hF⟩ := zb_some hF
    refine ex_callV (d' := 0) (q := 11) (as := []) (st1 := []) (r := none) (h2 := h7) dX8_endTurn_8 rfl (run_X8_pop e7) mc_X8_pop mv_X8_pop ml_X8_319 (by decide) g8 rfl rfl (Nat.le_of_ble_eq_true rfl) rfl ?_
    refine ex_aload_n (q := 12) dX8_endTurn_11 rfl rfl ?_
    refine ex_dup (q := 13) dX8_endTurn_12 rfl (fun _ z => by cases z) ?_
    obtain ⟨g9, hF⟩ := zg hF
    refine ex_get (q := 16) (v := vi (gt h7 1 l1 2)) 2 dX8_endTurn_13 rfl fl_X8_104 g9 rfl rfl ?_
    refine ex_iconst (q := 17) dX8_endTurn_16 rfl ⟨by decide, by decide⟩ ?_
    refine ex_iadd (q := 18) dX8_endTurn_17 rfl ?_
    refine ex_put (q := 21) 2 dX8_endTurn_18 rfl fl_X8_104 (by decide) g9 rfl rfl (fun z => by cases z) ?_
    refine ex_goto (q := 51) dX8_endTurn_21 (by decide) ?_
    obtain ⟨rfl, rfl⟩ := zr hF
    exact ex_ret none rfl ⟨dX8_endTurn_51, rfl⟩ ⟨rfl, rfl⟩
def F_X8_endTurn (l0 l1 l2 : Int) (h : zH) : zO := F_X8_endTurn_0 l0 l1 l2 h
theorem run_X8_endTurn {l0 l1 l2 : Int} {h : zH} {r : Int} {h' : zH} (hF : F_X8_endTurn l0 l1 l2 h = some (r, h')) : Run 1 yX8_endTurn cX8_endTurn 3 none [vr 8 l0, vr 1 l1, vr 0 l2] h none h' := run_of (M := M_X8_endTurn) (by decide) rfl (fun z => by cases z) (Nat.le_of_ble_eq_true rfl) (x_X8_endTurn_0 hF)
abbrev M_X8_endLastWay : zM := (RX8, (cX8_endLastWay, (3, (none, false))))
def F_X8_endLastWay_0 (l0 l1 l2 : Int) (h : zH) : zO := if 0 ≤ l2 then (if 0 ≤ l0 then (zb (F_X8_pop l0 (pt (pt h 8 l0 12 (gt h 0 l2 5)) 8 l0 13 (gt (pt h 8 l0 12 (gt h 0 l2 5)) 0 l2 6))) (fun r3 h3 => if 0 ≤ l1 then (some (0, (pt h3 1 l1 2 (wI ((gt h3 1 l1 2) + 1))))) else none)) else none) else none
set_option maxHeartbeats 1000000 in
theorem x_X8_endLastWay_0 {l0 l1 l2 : Int} {h : zH} {r : Int} {h' : zH} (hF : F_X8_endLastWay_0 l0 l1 l2 h = some (r, h')) : Ex 1 M_X8_endLastWay 0 [some (vr 8 l0), some (vr 1 l1), some (vr 0 l2)] [] h (fun r1 h1 => r1 = none ∧ h1 = h') := by
  unfold F_X8_endLastWay_0 at hF
  refine ex_aload_n (q := 1) dX8_endLastWay_0 rfl rfl ?_
  refine ex_aload_n (q := 2) dX8_endLastWay_1 rfl rfl ?_
  obtain ⟨g1, hF⟩ := zg hF
  refine ex_get (q := 5) (v := vi (gt h 0 l2 5)) 5 dX8_endLastWay_2 rfl fl_X8_328 g1 rfl rfl ?_
  obtain ⟨g2, hF⟩ := zg hF
  refine ex_put (q := 8) 12 dX8_endLastWay_5 rfl fl_X8_97 (by decide) g2 rfl rfl (fun z => by cases z) ?_
  refine ex_aload_n (q := 9) dX8_endLastWay_8 rfl rfl ?_
  refine ex_aload_n (q := 10) dX8_endLastWay_9 rfl rfl ?_
  refine ex_get (q := 13) (v := vi (gt (pt h 8 l0 12 (gt h 0 l2 5)) 0 l2 6)) 6 dX8_endLastWay_10 rfl fl_X8_331 g1 rfl rfl ?_
  refine ex_put (q := 16) 13 dX8_endLastWay_13 rfl fl_X8_42 (by decide) g2 rfl rfl (fun z => by cases z) ?_
  refine ex_aload_n (q := 17) dX8_endLastWay_16 rfl rfl ?_
  obtain ⟨r3, h3, e3, hF⟩ := zb_some hF
  refine ex_callV (d' := 0) (q := 20) (as := []) (st1 := []) (r := none) (h2 := h3) dX8_endLastWay_17 rfl (run_X8_pop e3) mc_X8_pop mv_X8_pop ml_X8_319 (by decide) g2 rfl rfl (Nat.le_of_ble_eq_true rfl) rfl ?_
  refine ex_aload_n (q := 21) dX8_endLastWay_20 rfl rfl ?_
  refine ex_dup (q := 22) dX8_endLastWay_21 rfl (fun _ z => by cases z) ?_
  obtain ⟨g4, hF⟩ := zg hF
  refine ex_get (q := 25) (v := vi (gt h3 1 l1 2)) 2 dX8_endLastWay_22 rfl fl_X8_104 g4 rfl rfl ?_
  refine ex_iconst (q := 26) dX8_endLastWay_25 rfl ⟨by decide, by decide⟩ ?_
  refine ex_iadd (q := 27) dX8_endLastWay_26 rfl ?_
  refine ex_put (q := 30) 2 dX8_endLastWay_27 rfl fl_X8_104 (by decide) g4 rfl rfl (fun z => by cases z) ?_
  obtain ⟨rfl, rfl⟩ := zr hF
  exact ex_ret none rfl ⟨dX8_endLastWay_30, rfl⟩ ⟨rfl, rfl⟩
def F_X8_endLastWay (l0 l1 l2 : Int) (h : zH) : zO := F_X8_endLastWay_0 l0 l1 l2 h
theorem run_X8_endLastWay {l0 l1 l2 : Int} {h : zH} {r : Int} {h' : zH} (hF : F_X8_endLastWay l0 l1 l2 h = some (r, h')) : Run 1 yX8_endLastWay cX8_endLastWay 3 none [vr 8 l0, vr 1 l1, vr 0 l2] h none h' := run_of (M := M_X8_endLastWay) (by decide) rfl (fun z => by cases z) (Nat.le_of_ble_eq_true rfl) (x_X8_endLastWay_0 hF)
abbrev M_X8_reachMark : zM := (RX8, (cX8_reachMark, (3, (none, false))))
def F_X8_reachMark_0 (l0 l1 : Int) (h : zH) : zO := if 0 ≤ l0 then (if 0 ≤ gt h 8 l0 4 then (if 0 ≤ gt h 8 l0 5 ∧ gt h 8 l0 5 < 91 then (if 0 ≤ gt h 40 (gt h 8 l0 4) (gt h 8 l0 5) then (if gt h 0 (gt h 40 (gt h 8 l0 4) (gt h 8 l0 5)) 0 = 11 then (zb (F_X8_endTurn l0 l1 (gt h 40 (gt h 8 l0 4) (gt h 8 l0 5)) h) (fun r6 h6 => some (0, h6))) else (if gt h 0 (gt h 40 (gt h 8 l0 4) (gt h 8 l0 5)) 0 = 12 then (zb (F_X8_endScopeBlock l0 l1 h) (fun r8 h8 => some (0, h8))) else (if gt h 0 (gt h 40 (gt h 8 l0 4) (gt h 8 l0 5)) 0 = 13 then (if gt h 0 (gt h 40 (gt h 8 l0 4) (gt h 8 l0 5)) 3 ≠ 2 then (zb (F_X8_leaveWay l0 l1 (gt h 40 (gt h 8 l0 4) (gt h 8 l0 5)) h) (fun r11 h11 => some (0, h11))) else (zb (F_X8_endLastWay l0 l1 (gt h 40 (gt h 8 l0 4) (gt h 8 l0 5)) h) (fun r12 h12 => some (0, h12)))) else (some (0, (pt h 8 l0 12 1)))))) else none) else none) else none) else none
set_option maxHeartbeats 1000000 in
theorem x_X8_reachMark_0 {l0 l1 : Int} {h : zH} {r : Int} {h' : zH} (hF : F_X8_reachMark_0 l0 l1 h = some (r, h')) : Ex 5 M_X8_reachMark 0 [some (vr 8 l0), some (vr 1 l1), none] [] h (fun r1 h1 => r1 = none ∧ h1 = h') := by
  unfold F_X8_reachMark_0 at hF
  refine ex_aload_n (q := 1) dX8_reachMark_0 rfl rfl ?_
  obtain ⟨g1, hF⟩ := zg hF
  refine ex_get (q := 4) (v := vr 40 (gt h 8 l0 4)) 4 dX8_reachMark_1 rfl fl_X8_19 g1 rfl rfl ?_
  refine ex_aload_n (q := 5) dX8_reachMark_4 rfl rfl ?_
  refine ex_get (q := 8) (v := vi (gt h 8 l0 5)) 5 dX8_reachMark_5 rfl fl_X8_132 g1 rfl rfl ?_
  obtain ⟨g2, hF⟩ := zg hF
  obtain ⟨g3, hF⟩ := zg hF
  refine ex_aald (q := 9) 0 dX8_reachMark_8 rfl kd_40 (by decide) g2 g3.1 g3.2 ?_
  refine ex_astore_n (q := 10) (lo' := [some (vr 8 l0), some (vr 1 l1), some (vr 0 (gt h 40 (gt h 8 l0 4) (gt h 8 l0 5)))]) dX8_reachMark_9 rfl (by decide) rfl rfl ?_
  refine ex_aload_n (q := 11) dX8_reachMark_10 rfl rfl ?_
  obtain ⟨g4, hF⟩ := zg hF
  refine ex_get (q := 14) (v := vi (gt h 0 (gt h 40 (gt h 8 l0 4) (gt h 8 l0 5)) 0)) 0 dX8_reachMark_11 rfl fl_X8_297 g4 rfl rfl ?_
  by_cases c5 : gt h 0 (gt h 40 (gt h 8 l0 4) (gt h 8 l0 5)) 0 = 11
  · have hF := ip c5 hF
    refine ex_tsw 11 (tgt := 48) dX8_reachMark_14 c5 (by decide) (by decide) rfl (by decide) ?_
    refine ex_aload_n (q := 49) dX8_reachMark_48 rfl rfl ?_
    refine ex_aload_n (q := 50) dX8_reachMark_49 rfl rfl ?_
    refine ex_aload_n (q := 51) dX8_reachMark_50 rfl rfl ?_
    obtain ⟨r6, h6, e6, hF⟩ := zb_some hF
    refine ex_callV (d' := 1) (q := 54) (as := [vr 1 l1, vr 0 (gt h 40 (gt h 8 l0 4) (gt h 8 l0 5))]) (st1 := []) (r := none) (h2 := h6) dX8_reachMark_51 rfl (run_X8_endTurn e6) mc_X8_endTurn mv_X8_endTurn ml_X8_303 (by decide) g1 rfl rfl (Nat.le_of_ble_eq_true rfl) rfl ?_
    refine ex_goto (q := 88) dX8_reachMark_54 (by decide) ?_
    obtain ⟨rfl, rfl⟩ := zr hF
    exact ex_ret none rfl ⟨dX8_reachMark_88, rfl⟩ ⟨rfl, rfl⟩
  · have hF := im c5 hF
    by_cases c7 : gt h 0 (gt h 40 (gt h 8 l0 4) (gt h 8 l0 5)) 0 = 12
    · have hF := ip c7 hF
      refine ex_tsw 12 (tgt := 40) dX8_reachMark_14 c7 (by decide) (by decide) rfl (by decide) ?_
      refine ex_aload_n (q := 41) dX8_reachMark_40 rfl rfl ?_
      refine ex_aload_n (q := 42) dX8_reachMark_41 rfl rfl ?_
      obtain ⟨r8, h8, e8, hF⟩ := zb_some hF
      refine ex_callV (d' := 4) (q := 45) (as := [vr 1 l1]) (st1 := []) (r := none) (h2 := h8) dX8_reachMark_42 rfl (run_X8_endScopeBlock e8) mc_X8_endScopeBlock mv_X8_endScopeBlock ml_X8_300 (by decide) g1 rfl rfl (Nat.le_of_ble_eq_true rfl) rfl ?_
      refine ex_goto (q := 88) dX8_reachMark_45 (by decide) ?_
      obtain ⟨rfl, rfl⟩ := zr hF
      exact ex_ret none rfl ⟨dX8_reachMark_88, rfl⟩ ⟨rfl, rfl⟩
    · have hF := im c7 hF
      by_cases c9 : gt h 0 (gt h 40 (gt h 8 l0 4) (gt h 8 l0 5)) 0 = 13
      · have hF := ip c9 hF
        refine ex_tsw 13 (tgt := 57) dX8_reachMark_14 c9 (by decide) (by decide) rfl (by decide) ?_
        refine ex_aload_n (q := 58) dX8_reachMark_57 rfl rfl ?_
        refine ex_get (q := 61) (v := vi (gt h 0 (gt h 40 (gt h 8 l0 4) (gt h 8 l0 5)) 3)) 3 dX8_reachMark_58 rfl fl_X8_307 g4 rfl rfl ?_
        refine ex_iconst (q := 62) dX8_reachMark_61 rfl ⟨by decide, by decide⟩ ?_
        refine ex_icmp_ne (q := 65) (tgt := 74) dX8_reachMark_62 rfl (by decide) (fun c10 => ?_) (fun c10 => ?_)
        · have hF := ip c10 hF
          refine ex_aload_n (q := 75) dX8_reachMark_74 rfl rfl ?_
          refine ex_aload_n (q := 76) dX8_reachMark_75 rfl rfl ?_
          refine ex_aload_n (q := 77) dX8_reachMark_76 rfl rfl ?_
          obtain ⟨r11, h11, e11, hF⟩ := zb_some hF
          refine ex_callV (d' := 3) (q := 80) (as := [vr 1 l1, vr 0 (gt h 40 (gt h 8 l0 4) (gt h 8 l0 5))]) (st1 := []) (r := none) (h2 := h11) dX8_reachMark_77 rfl (run_X8_leaveWay e11) mc_X8_leaveWay mv_X8_leaveWay ml_X8_313 (by decide) g1 rfl rfl (Nat.le_of_ble_eq_true rfl) rfl ?_
          refine ex_goto (q := 88) dX8_reachMark_80 (by decide) ?_
          obtain ⟨rfl, rfl⟩ := zr hF
          exact ex_ret none rfl ⟨dX8_reachMark_88, rfl⟩ ⟨rfl, rfl⟩
        · have hF := im c10 hF
          refine ex_aload_n (q := 66) dX8_reachMark_65 rfl rfl ?_
          refine ex_aload_n (q := 67) dX8_reachMark_66 rfl rfl ?_
          refine ex_aload_n (q := 68) dX8_reachMark_67 rfl rfl ?_
          obtain ⟨r12, h12, e12, hF⟩ := zb_some hF
          refine ex_callV (d' := 1) (q := 71) (as := [vr 1 l1, vr 0 (gt h 40 (gt h 8 l0 4) (gt h 8 l0 5))]) (st1 := []) (r := none) (h2 := h12) dX8_reachMark_68 rfl (run_X8_endLastWay e12) mc_X8_endLastWay mv_X8_endLastWay ml_X8_310 (by decide) g1 rfl rfl (Nat.le_of_ble_eq_true rfl) rfl ?_
          refine ex_goto (q := 88) dX8_reachMark_71 (by decide) ?_
          obtain ⟨rfl, rfl⟩ := zr hF
          exact ex_ret none rfl ⟨dX8_reachMark_88, rfl⟩ ⟨rfl, rfl⟩
      · have hF := im c9 hF
        refine ex_tswD (tgt := 83) dX8_reachMark_14 (by omega) (by decide) ?_
        refine ex_aload_n (q := 84) dX8_reachMark_83 rfl rfl ?_
        refine ex_iconst (q := 85) dX8_reachMark_84 rfl ⟨by decide, by decide⟩ ?_
        refine ex_put (q := 88) 12 dX8_reachMark_85 rfl fl_X8_97 (by decide) g1 rfl rfl (fun z => by cases z) ?_
        obtain ⟨rfl, rfl⟩ := zr hF
        exact ex_ret none rfl ⟨dX8_reachMark_88, rfl⟩ ⟨rfl, rfl⟩
def F_X8_reachMark (l0 l1 : Int) (h : zH) : zO := F_X8_reachMark_0 l0 l1 h
theorem run_X8_reachMark {l0 l1 : Int} {h : zH} {r : Int} {h' : zH} (hF : F_X8_reachMark l0 l1 h = some (r, h')) : Run 5 yX8_reachMark cX8_reachMark 3 none [vr 8 l0, vr 1 l1] h none h' := run_of (M := M_X8_reachMark) (by decide) rfl (fun z => by cases z) (Nat.le_of_ble_eq_true rfl) (x_X8_reachMark_0 hF)
abbrev M_X10_bAt : zM := (RX10, (cX10_bAt, (2, ((some .int), false))))
def F_X10_bAt_0 (l0 l1 : Int) (h : zH) : zO := if 0 ≤ l0 then (zb (F_X11_within l1 (gt h 10 l0 4) h) (fun r2 h2 => if r2 = 0 then (some ((-1), h2)) else (if 0 ≤ gt h2 10 l0 2 then (if 0 ≤ l1 ∧ l1 < 40 then (some (gt h2 45 (gt h2 10 l0 2) l1, h2)) else none) else none))) else none
set_option maxHeartbeats 1000000 in
theorem x_X10_bAt_0 {l0 l1 : Int} {h : zH} {r : Int} {h' : zH} (hF : F_X10_bAt_0 l0 l1 h = some (r, h')) : Ex 1 M_X10_bAt 0 [some (vr 10 l0), some (vi l1)] [] h (fun r1 h1 => r1 = some (vi r) ∧ h1 = h') := by
  unfold F_X10_bAt_0 at hF
  refine ex_iload_n (q := 1) dX10_bAt_0 rfl rfl ?_
  refine ex_aload_n (q := 2) dX10_bAt_1 rfl rfl ?_
  obtain ⟨g1, hF⟩ := zg hF
  refine ex_get (q := 5) (v := vi (gt h 10 l0 4)) 4 dX10_bAt_2 rfl fl_X10_30 g1 rfl rfl ?_
  obtain ⟨r2, h2, e2, hF⟩ := zb_some hF
  refine ex_callS (d' := 0) (q := 8) (as := [vi l1, vi (gt h 10 l0 4)]) (st1 := [vi r2]) (r := (some (vi r2))) (h2 := h2) dX10_bAt_5 rfl (run_X11_within e2) mc_X11_within ms_X11_within ml_X10_34 (by decide) rfl rfl (Nat.le_of_ble_eq_true rfl) rfl ?_
  refine ex_if_eq (q := 11) (tgt := 20) dX10_bAt_8 rfl (by decide) (fun c3 => ?_) (fun c3 => ?_)
  · have hF := ip c3 hF
    refine ex_iconst (q := 21) dX10_bAt_20 rfl ⟨by decide, by decide⟩ ?_
    obtain ⟨rfl, rfl⟩ := zr hF
    exact ex_ret (some (vi (-1))) rfl ⟨dX10_bAt_21, Or.inl rfl⟩ ⟨rfl, rfl⟩
  · have hF := im c3 hF
    refine ex_aload_n (q := 12) dX10_bAt_11 rfl rfl ?_
    refine ex_get (q := 15) (v := vr 45 (gt h2 10 l0 2)) 2 dX10_bAt_12 rfl fl_X10_18 g1 rfl rfl ?_
    refine ex_iload_n (q := 16) dX10_bAt_15 rfl rfl ?_
    obtain ⟨g4, hF⟩ := zg hF
    obtain ⟨g5, hF⟩ := zg hF
    refine ex_iald (q := 17) dX10_bAt_16 rfl kd_45 g4 g5.1 g5.2 ?_
    refine ex_goto (q := 21) dX10_bAt_17 (by decide) ?_
    obtain ⟨rfl, rfl⟩ := zr hF
    exact ex_ret (some (vi (gt h2 45 (gt h2 10 l0 2) l1))) rfl ⟨dX10_bAt_21, Or.inl rfl⟩ ⟨rfl, rfl⟩
def F_X10_bAt (l0 l1 : Int) (h : zH) : zO := F_X10_bAt_0 l0 l1 h
theorem run_X10_bAt {l0 l1 : Int} {h : zH} {r : Int} {h' : zH} (hF : F_X10_bAt l0 l1 h = some (r, h')) : Run 1 yX10_bAt cX10_bAt 2 (some .int) [vr 10 l0, vi l1] h (some (vi r)) h' := run_of (M := M_X10_bAt) (by decide) rfl (fun z => by cases z) (Nat.le_of_ble_eq_true rfl) (x_X10_bAt_0 hF)
abbrev M_X8_fail : zM := (RX8, (cX8_fail, (5, (none, false))))
def F_X8_fail_0 (l0 l1 l2 l3 : Int) (h : zH) : zO := if 0 ≤ l0 then (if 0 ≤ l1 then (if 0 ≤ gt h 8 l0 10 then (zb (F_X2_add (gt h 8 l0 10) l2 (gt h 1 l1 1) (gt h 1 l1 2) l3 h) (fun r3 h3 => if r3 ≠ (-1) then (some (0, (pt (pt h3 8 l0 13 r3) 8 l0 12 3))) else (some (0, (pt (pt h3 8 l0 13 r3) 8 l0 12 4))))) else none) else none) else none
set_option maxHeartbeats 1000000 in
theorem x_X8_fail_0 {l0 l1 l2 l3 : Int} {h : zH} {r : Int} {h' : zH} (hF : F_X8_fail_0 l0 l1 l2 l3 h = some (r, h')) : Ex 2 M_X8_fail 0 [some (vr 8 l0), some (vr 1 l1), some (vi l2), some (vi l3), none] [] h (fun r1 h1 => r1 = none ∧ h1 = h') := by
  unfold F_X8_fail_0 at hF
  refine ex_aload_n (q := 1) dX8_fail_0 rfl rfl ?_
  obtain ⟨g1, hF⟩ := zg hF
  refine ex_get (q := 4) (v := vr 2 (gt h 8 l0 10)) 10 dX8_fail_1 rfl fl_X8_38 g1 rfl rfl ?_
  refine ex_iload_n (q := 5) dX8_fail_4 rfl rfl ?_
  refine ex_aload_n (q := 6) dX8_fail_5 rfl rfl ?_
  obtain ⟨g2, hF⟩ := zg hF
  refine ex_get (q := 9) (v := vi (gt h 1 l1 1)) 1 dX8_fail_6 rfl fl_X8_221 g2 rfl rfl ?_
  refine ex_aload_n (q := 10) dX8_fail_9 rfl rfl ?_
  refine ex_get (q := 13) (v := vi (gt h 1 l1 2)) 2 dX8_fail_10 rfl fl_X8_104 g2 rfl rfl ?_
  refine ex_iload_n (q := 14) dX8_fail_13 rfl rfl ?_
  obtain ⟨g4, hF⟩ := zg hF
  obtain ⟨r3, h3, e3, hF⟩ := zb_some hF
  refine ex_callV (d' := 1) (q := 17) (as := [vi l2, vi (gt h 1 l1 1), vi (gt h 1 l1 2), vi l3]) (st1 := [vi r3]) (r := (some (vi r3))) (h2 := h3) dX8_fail_14 rfl (run_X2_add e3) mc_X2_add mv_X2_add ml_X8_283 (by decide) g4 rfl rfl (Nat.le_of_ble_eq_true rfl) rfl ?_
  refine ex_istore (q := 19) (lo' := [some (vr 8 l0), some (vr 1 l1), some (vi l2), some (vi l3), some (vi r3)]) dX8_fail_17 rfl (by decide) rfl rfl ?_
  refine ex_aload_n (q := 20) dX8_fail_19 rfl rfl ?_
  refine ex_iload (q := 22) dX8_fail_20 rfl rfl ?_
  refine ex_put (q := 25) 13 dX8_fail_22 rfl fl_X8_42 (by decide) g1 rfl rfl (fun z => by cases z) ?_
  refine ex_aload_n (q := 26) dX8_fail_25 rfl rfl ?_
  refine ex_iload (q := 28) dX8_fail_26 rfl rfl ?_
  refine ex_iconst (q := 29) dX8_fail_28 rfl ⟨by decide, by decide⟩ ?_
  refine ex_icmp_ne (q := 32) (tgt := 36) dX8_fail_29 rfl (by decide) (fun c5 => ?_) (fun c5 => ?_)
  · have hF := ip c5 hF
    refine ex_iconst (q := 37) dX8_fail_36 rfl ⟨by decide, by decide⟩ ?_
    refine ex_put (q := 40) 12 dX8_fail_37 rfl fl_X8_97 (by decide) g1 rfl rfl (fun z => by cases z) ?_
    obtain ⟨rfl, rfl⟩ := zr hF
    exact ex_ret none rfl ⟨dX8_fail_40, rfl⟩ ⟨rfl, rfl⟩
  · have hF := im c5 hF
    refine ex_iconst (q := 33) dX8_fail_32 rfl ⟨by decide, by decide⟩ ?_
    refine ex_goto (q := 37) dX8_fail_33 (by decide) ?_
    refine ex_put (q := 40) 12 dX8_fail_37 rfl fl_X8_97 (by decide) g1 rfl rfl (fun z => by cases z) ?_
    obtain ⟨rfl, rfl⟩ := zr hF
    exact ex_ret none rfl ⟨dX8_fail_40, rfl⟩ ⟨rfl, rfl⟩
def F_X8_fail (l0 l1 l2 l3 : Int) (h : zH) : zO := F_X8_fail_0 l0 l1 l2 l3 h
theorem run_X8_fail {l0 l1 l2 l3 : Int} {h : zH} {r : Int} {h' : zH} (hF : F_X8_fail l0 l1 l2 l3 h = some (r, h')) : Run 2 yX8_fail cX8_fail 5 none [vr 8 l0, vr 1 l1, vi l2, vi l3] h none h' := run_of (M := M_X8_fail) (by decide) rfl (fun z => by cases z) (Nat.le_of_ble_eq_true rfl) (x_X8_fail_0 hF)
abbrev M_X3_giveOut : zM := (RX3, (cX3_giveOut, (4, (none, false))))
def F_X3_giveOut_0 (l0 l1 l2 l3 : Int) (h : zH) : zO := if 0 ≤ l1 then (if l3 = 0 then (some (0, (pt (pt (pt h 6 l1 3 1) 6 l1 4 l2) 6 l1 7 0))) else (if 0 ≤ l0 then (zb (F_X11_within (gt (pt (pt (pt h 6 l1 3 1) 6 l1 4 l2) 6 l1 7 0) 3 l0 5) 60 (pt (pt (pt h 6 l1 3 1) 6 l1 4 l2) 6 l1 7 0)) (fun r4 h4 => if r4 = 0 then (some (0, h4)) else (if 0 ≤ gt h4 3 l0 4 then (if 0 ≤ gt h4 3 l0 5 ∧ gt h4 3 l0 5 < 60 then (zl (pt (pt h4 29 (gt h4 3 l0 4) (gt h4 3 l0 5) (gt h4 6 l1 0)) 3 l0 5 (wI ((gt (pt h4 29 (gt h4 3 l0 4) (gt h4 3 l0 5) (gt h4 6 l1 0)) 3 l0 5) + 1))) (fun k8 => some (0, k8))) else none) else none))) else none)) else none
set_option maxHeartbeats 1000000 in
theorem x_X3_giveOut_0 {l0 l1 l2 l3 : Int} {h : zH} {r : Int} {h' : zH} (hF : F_X3_giveOut_0 l0 l1 l2 l3 h = some (r, h')) : Ex 1 M_X3_giveOut 0 [some (vr 3 l0), some (vr 6 l1), some (vi l2), some (vi l3)] [] h (fun r1 h1 => r1 = none ∧ h1 = h') := by
  unfold F_X3_giveOut_0 at hF
  refine ex_aload_n (q := 1) dX3_giveOut_0 rfl rfl ?_
  refine ex_iconst (q := 2) dX3_giveOut_1 rfl ⟨by decide, by decide⟩ ?_
  obtain ⟨g1, hF⟩ := zg hF
  refine ex_put (q := 5) 3 dX3_giveOut_2 rfl fl_X3_66 (by decide) g1 rfl rfl (fun z => by cases z) ?_
  refine ex_aload_n (q := 6) dX3_giveOut_5 rfl rfl ?_
  refine ex_iload_n (q := 7) dX3_giveOut_6 rfl rfl ?_
  refine ex_put (q := 10) 4 dX3_giveOut_7 rfl fl_X3_79 (by decide) g1 rfl rfl (fun z => by cases z) ?_
  refine ex_aload_n (q := 11) dX3_giveOut_10 rfl rfl ?_
  refine ex_iconst (q := 12) dX3_giveOut_11 rfl ⟨by decide, by decide⟩ ?_
  refine ex_put (q := 15) 7 dX3_giveOut_12 rfl fl_X3_82 (by decide) g1 rfl rfl (fun z => by cases z) ?_
  refine ex_iload_n (q := 16) dX3_giveOut_15 rfl rfl ?_
  refine ex_if_eq (q := 19) (tgt := 54) dX3_giveOut_16 rfl (by decide) (fun c2 => ?_) (fun c2 => ?_)
  · have hF := ip c2 hF
    obtain ⟨rfl, rfl⟩ := zr hF
    exact ex_ret none rfl ⟨dX3_giveOut_54, rfl⟩ ⟨rfl, rfl⟩
  · have hF := im c2 hF
    refine ex_aload_n (q := 20) dX3_giveOut_19 rfl rfl ?_
    obtain ⟨g3, hF⟩ := zg hF
    refine ex_get (q := 23) (v := vi (gt (pt (pt (pt h 6 l1 3 1) 6 l1 4 l2) 6 l1 7 0) 3 l0 5)) 5 dX3_giveOut_20 rfl fl_X3_50 g3 rfl rfl ?_
    refine ex_bipush (q := 25) dX3_giveOut_23 rfl (by decide) ⟨by decide, by decide⟩ ?_
    obtain ⟨r4, h4, e4, hF⟩ := zb_some hF
    refine ex_callS (d' := 0) (q := 28) (as := [vi (gt (pt (pt (pt h 6 l1 3 1) 6 l1 4 l2) 6 l1 7 0) 3 l0 5), vi 60]) (st1 := [vi r4]) (r := (some (vi r4))) (h2 := h4) dX3_giveOut_25 rfl (run_X11_within e4) mc_X11_within ms_X11_within ml_X3_46 (by decide) rfl rfl (Nat.le_of_ble_eq_true rfl) rfl ?_
    refine ex_if_eq (q := 31) (tgt := 54) dX3_giveOut_28 rfl (by decide) (fun c5 => ?_) (fun c5 => ?_)
    · have hF := ip c5 hF
      obtain ⟨rfl, rfl⟩ := zr hF
      exact ex_ret none rfl ⟨dX3_giveOut_54, rfl⟩ ⟨rfl, rfl⟩
    · have hF := im c5 hF
      refine ex_aload_n (q := 32) dX3_giveOut_31 rfl rfl ?_
      refine ex_get (q := 35) (v := vr 29 (gt h4 3 l0 4)) 4 dX3_giveOut_32 rfl fl_X3_21 g3 rfl rfl ?_
      refine ex_aload_n (q := 36) dX3_giveOut_35 rfl rfl ?_
      refine ex_get (q := 39) (v := vi (gt h4 3 l0 5)) 5 dX3_giveOut_36 rfl fl_X3_50 g3 rfl rfl ?_
      refine ex_aload_n (q := 40) dX3_giveOut_39 rfl rfl ?_
      refine ex_get (q := 43) (v := vi (gt h4 6 l1 0)) 0 dX3_giveOut_40 rfl fl_X3_85 g1 rfl rfl ?_
      obtain ⟨g6, hF⟩ := zg hF
      obtain ⟨g7, hF⟩ := zg hF
      refine ex_iast (q := 44) dX3_giveOut_43 rfl kd_29 g6 g7.1 g7.2 ?_
      refine ex_aload_n (q := 45) dX3_giveOut_44 rfl rfl ?_
      refine ex_dup (q := 46) dX3_giveOut_45 rfl (fun _ z => by cases z) ?_
      refine ex_get (q := 49) (v := vi (gt (pt h4 29 (gt h4 3 l0 4) (gt h4 3 l0 5) (gt h4 6 l1 0)) 3 l0 5)) 5 dX3_giveOut_46 rfl fl_X3_50 g3 rfl rfl ?_
      refine ex_iconst (q := 50) dX3_giveOut_49 rfl ⟨by decide, by decide⟩ ?_
      refine ex_iadd (q := 51) dX3_giveOut_50 rfl ?_
      refine ex_put (q := 54) 5 dX3_giveOut_51 rfl fl_X3_50 (by decide) g3 rfl rfl (fun z => by cases z) ?_
      have hF := zl_e hF
      generalize pt (pt h4 29 (gt h4 3 l0 4) (gt h4 3 l0 5) (gt h4 6 l1 0)) 3 l0 5 (wI ((gt (pt h4 29 (gt h4 3 l0 4) (gt h4 3 l0 5) (gt h4 6 l1 0)) 3 l0 5) + 1)) = k8 at hF ⊢
      obtain ⟨rfl, rfl⟩ := zr hF
      exact ex_ret none rfl ⟨dX3_giveOut_54, rfl⟩ ⟨rfl, rfl⟩
def F_X3_giveOut (l0 l1 l2 l3 : Int) (h : zH) : zO := F_X3_giveOut_0 l0 l1 l2 l3 h
theorem run_X3_giveOut {l0 l1 l2 l3 : Int} {h : zH} {r : Int} {h' : zH} (hF : F_X3_giveOut l0 l1 l2 l3 h = some (r, h')) : Run 1 yX3_giveOut cX3_giveOut 4 none [vr 3 l0, vr 6 l1, vi l2, vi l3] h none h' := run_of (M := M_X3_giveOut) (by decide) rfl (fun z => by cases z) (Nat.le_of_ble_eq_true rfl) (x_X3_giveOut_0 hF)
abbrev M_X4_begin : zM := (RX4, (cX4_begin, (4, (none, false))))
def F_X4_begin_0 (l0 l1 l2 l3 : Int) (h : zH) : zO := if 0 ≤ l0 then (zl (pt (pt (pt (pt (pt (pt (pt (pt h 4 l0 0 l1) 4 l0 1 l2) 4 l0 2 1) 4 l0 3 l3) 4 l0 4 (-1)) 4 l0 5 (-1)) 4 l0 6 (-1)) 4 l0 7 (-1)) (fun k2 => if l3 = -1 then (some (0, k2)) else (if 0 ≤ l3 then (some (0, (pt k2 4 l3 4 l0))) else none))) else none
set_option maxHeartbeats 1000000 in
theorem x_X4_begin_0 {l0 l1 l2 l3 : Int} {h : zH} {r : Int} {h' : zH} (hF : F_X4_begin_0 l0 l1 l2 l3 h = some (r, h')) : Ex 0 M_X4_begin 0 [some (vr 4 l0), some (vr 6 l1), some (vi l2), some (vr 4 l3)] [] h (fun r1 h1 => r1 = none ∧ h1 = h') := by
  unfold F_X4_begin_0 at hF
  refine ex_aload_n (q := 1) dX4_begin_0 rfl rfl ?_
  refine ex_aload_n (q := 2) dX4_begin_1 rfl rfl ?_
  obtain ⟨g1, hF⟩ := zg hF
  refine ex_put (q := 5) 0 dX4_begin_2 rfl fl_X4_7 (by decide) g1 rfl rfl (fun z => by cases z) ?_
  refine ex_aload_n (q := 6) dX4_begin_5 rfl rfl ?_
  refine ex_iload_n (q := 7) dX4_begin_6 rfl rfl ?_
  refine ex_put (q := 10) 1 dX4_begin_7 rfl fl_X4_13 (by decide) g1 rfl rfl (fun z => by cases z) ?_
  refine ex_aload_n (q := 11) dX4_begin_10 rfl rfl ?_
  refine ex_iconst (q := 12) dX4_begin_11 rfl ⟨by decide, by decide⟩ ?_
  refine ex_put (q := 15) 2 dX4_begin_12 rfl fl_X4_17 (by decide) g1 rfl rfl (fun _ => by decide) ?_
  refine ex_aload_n (q := 16) dX4_begin_15 rfl rfl ?_
  refine ex_aload_n (q := 17) dX4_begin_16 rfl rfl ?_
  refine ex_put (q := 20) 3 dX4_begin_17 rfl fl_X4_21 (by decide) g1 rfl rfl (fun z => by cases z) ?_
  refine ex_aload_n (q := 21) dX4_begin_20 rfl rfl ?_
  refine ex_null (q := 22) 4 dX4_begin_21 rfl ?_
  refine ex_put (q := 25) 4 dX4_begin_22 rfl fl_X4_25 (by decide) g1 rfl rfl (fun z => by cases z) ?_
  refine ex_aload_n (q := 26) dX4_begin_25 rfl rfl ?_
  refine ex_null (q := 27) 9 dX4_begin_26 rfl ?_
  refine ex_put (q := 30) 5 dX4_begin_27 rfl fl_X4_28 (by decide) g1 rfl rfl (fun z => by cases z) ?_
  refine ex_aload_n (q := 31) dX4_begin_30 rfl rfl ?_
  refine ex_null (q := 32) 4 dX4_begin_31 rfl ?_
  refine ex_put (q := 35) 6 dX4_begin_32 rfl fl_X4_32 (by decide) g1 rfl rfl (fun z => by cases z) ?_
  refine ex_aload_n (q := 36) dX4_begin_35 rfl rfl ?_
  refine ex_null (q := 37) 4 dX4_begin_36 rfl ?_
  refine ex_put (q := 40) 7 dX4_begin_37 rfl fl_X4_35 (by decide) g1 rfl rfl (fun z => by cases z) ?_
  have hF := zl_e hF
  generalize pt (pt (pt (pt (pt (pt (pt (pt h 4 l0 0 l1) 4 l0 1 l2) 4 l0 2 1) 4 l0 3 l3) 4 l0 4 (-1)) 4 l0 5 (-1)) 4 l0 6 (-1)) 4 l0 7 (-1) = k2 at hF ⊢
  refine ex_aload_n (q := 41) dX4_begin_40 rfl rfl ?_
  refine ex_ifnull (q := 44) (tgt := 49) dX4_begin_41 rfl (by decide) (fun c3 => ?_) (fun c3 => ?_)
  · have hF := ip c3 hF
    obtain ⟨rfl, rfl⟩ := zr hF
    exact ex_ret none rfl ⟨dX4_begin_49, rfl⟩ ⟨rfl, rfl⟩
  · have hF := im c3 hF
    refine ex_aload_n (q := 45) dX4_begin_44 rfl rfl ?_
    refine ex_aload_n (q := 46) dX4_begin_45 rfl rfl ?_
    obtain ⟨g4, hF⟩ := zg hF
    refine ex_put (q := 49) 4 dX4_begin_46 rfl fl_X4_25 (by decide) g4 rfl rfl (fun z => by cases z) ?_
    obtain ⟨rfl, rfl⟩ := zr hF
    exact ex_ret none rfl ⟨dX4_begin_49, rfl⟩ ⟨rfl, rfl⟩
def F_X4_begin (l0 l1 l2 l3 : Int) (h : zH) : zO := F_X4_begin_0 l0 l1 l2 l3 h
theorem run_X4_begin {l0 l1 l2 l3 : Int} {h : zH} {r : Int} {h' : zH} (hF : F_X4_begin l0 l1 l2 l3 h = some (r, h')) : Run 0 yX4_begin cX4_begin 4 none [vr 4 l0, vr 6 l1, vi l2, vr 4 l3] h none h' := run_of (M := M_X4_begin) (by decide) rfl (fun z => by cases z) (Nat.le_of_ble_eq_true rfl) (x_X4_begin_0 hF)
abbrev M_X4_moveTo : zM := (RX4, (cX4_moveTo, (2, (none, false))))
def F_X4_moveTo_32 (l0 l1 : Int) (h : zH) : zO := if 0 ≤ l1 then (some (0, (pt h 9 l1 2 l0))) else none
set_option maxHeartbeats 1000000 in
theorem x_X4_moveTo_32 {l0 l1 : Int} {h : zH} {r : Int} {h' : zH} (hF : F_X4_moveTo_32 l0 l1 h = some (r, h')) : Ex 1 M_X4_moveTo 32 [some (vr 4 l0), some (vr 9 l1)] [] h (fun r1 h1 => r1 = none ∧ h1 = h') := by
  unfold F_X4_moveTo_32 at hF
  refine ex_aload_n (q := 33) dX4_moveTo_32 rfl rfl ?_
  refine ex_aload_n (q := 34) dX4_moveTo_33 rfl rfl ?_
  obtain ⟨g1, hF⟩ := zg hF
  refine ex_put (q := 37) 2 dX4_moveTo_34 rfl fl_X4_41 (by decide) g1 rfl rfl (fun z => by cases z) ?_
  obtain ⟨rfl, rfl⟩ := zr hF
  exact ex_ret none rfl ⟨dX4_moveTo_37, rfl⟩ ⟨rfl, rfl⟩
def F_X4_moveTo_0 (l0 l1 : Int) (h : zH) : zO := if 0 ≤ l0 then (zb (F_X4_leaveScope l0 h) (fun r1 h1 => if 0 ≤ l1 then (if gt (pt (pt h1 4 l0 5 l1) 4 l0 6 (gt (pt h1 4 l0 5 l1) 9 l1 2)) 9 l1 2 = -1 then (F_X4_moveTo_32 l0 l1 (pt (pt h1 4 l0 5 l1) 4 l0 6 (gt (pt h1 4 l0 5 l1) 9 l1 2))) else (if 0 ≤ gt (pt (pt h1 4 l0 5 l1) 4 l0 6 (gt (pt h1 4 l0 5 l1) 9 l1 2)) 9 l1 2 then (F_X4_moveTo_32 l0 l1 (pt (pt (pt h1 4 l0 5 l1) 4 l0 6 (gt (pt h1 4 l0 5 l1) 9 l1 2)) 4 (gt (pt (pt h1 4 l0 5 l1) 4 l0 6 (gt (pt h1 4 l0 5 l1) 9 l1 2)) 9 l1 2) 7 l0)) else none)) else none)) else none
set_option maxHeartbeats 1000000 in
theorem x_X4_moveTo_0 {l0 l1 : Int} {h : zH} {r : Int} {h' : zH} (hF : F_X4_moveTo_0 l0 l1 h = some (r, h')) : Ex 1 M_X4_moveTo 0 [some (vr 4 l0), some (vr 9 l1)] [] h (fun r1 h1 => r1 = none ∧ h1 = h') := by
  unfold F_X4_moveTo_0 at hF
  refine ex_aload_n (q := 1) dX4_moveTo_0 rfl rfl ?_
  obtain ⟨g2, hF⟩ := zg hF
  obtain ⟨r1, h1, e1, hF⟩ := zb_some hF
  refine ex_callV (d' := 0) (q := 4) (as := []) (st1 := []) (r := none) (h2 := h1) dX4_moveTo_1 rfl (run_X4_leaveScope e1) mc_X4_leaveScope mv_X4_leaveScope ml_X4_38 (by decide) g2 rfl rfl (Nat.le_of_ble_eq_true rfl) rfl ?_
  refine ex_aload_n (q := 5) dX4_moveTo_4 rfl rfl ?_
  refine ex_aload_n (q := 6) dX4_moveTo_5 rfl rfl ?_
  refine ex_put (q := 9) 5 dX4_moveTo_6 rfl fl_X4_28 (by decide) g2 rfl rfl (fun z => by cases z) ?_
  refine ex_aload_n (q := 10) dX4_moveTo_9 rfl rfl ?_
  refine ex_aload_n (q := 11) dX4_moveTo_10 rfl rfl ?_
  obtain ⟨g3, hF⟩ := zg hF
  refine ex_get (q := 14) (v := vr 4 (gt (pt h1 4 l0 5 l1) 9 l1 2)) 2 dX4_moveTo_11 rfl fl_X4_41 g3 rfl rfl ?_
  refine ex_put (q := 17) 6 dX4_moveTo_14 rfl fl_X4_32 (by decide) g2 rfl rfl (fun z => by cases z) ?_
  refine ex_aload_n (q := 18) dX4_moveTo_17 rfl rfl ?_
  refine ex_get (q := 21) (v := vr 4 (gt (pt (pt h1 4 l0 5 l1) 4 l0 6 (gt (pt h1 4 l0 5 l1) 9 l1 2)) 9 l1 2)) 2 dX4_moveTo_18 rfl fl_X4_41 g3 rfl rfl ?_
  refine ex_ifnull (q := 24) (tgt := 32) dX4_moveTo_21 rfl (by decide) (fun c4 => ?_) (fun c4 => ?_)
  · have hF := ip c4 hF
    exact ex_forget (lo' := [some (vr 4 l0), some (vr 9 l1)]) ⟨Or.inr rfl, Or.inr rfl, trivial⟩ (x_X4_moveTo_32 hF)
  · have hF := im c4 hF
    refine ex_aload_n (q := 25) dX4_moveTo_24 rfl rfl ?_
    refine ex_get (q := 28) (v := vr 4 (gt (pt (pt h1 4 l0 5 l1) 4 l0 6 (gt (pt h1 4 l0 5 l1) 9 l1 2)) 9 l1 2)) 2 dX4_moveTo_25 rfl fl_X4_41 g3 rfl rfl ?_
    refine ex_aload_n (q := 29) dX4_moveTo_28 rfl rfl ?_
    obtain ⟨g5, hF⟩ := zg hF
    refine ex_put (q := 32) 7 dX4_moveTo_29 rfl fl_X4_35 (by decide) g5 rfl rfl (fun z => by cases z) ?_
    exact ex_forget (lo' := [some (vr 4 l0), some (vr 9 l1)]) ⟨Or.inr rfl, Or.inr rfl, trivial⟩ (x_X4_moveTo_32 hF)
def F_X4_moveTo (l0 l1 : Int) (h : zH) : zO := F_X4_moveTo_0 l0 l1 h
theorem run_X4_moveTo {l0 l1 : Int} {h : zH} {r : Int} {h' : zH} (hF : F_X4_moveTo l0 l1 h = some (r, h')) : Run 1 yX4_moveTo cX4_moveTo 2 none [vr 4 l0, vr 9 l1] h none h' := run_of (M := M_X4_moveTo) (by decide) rfl (fun z => by cases z) (Nat.le_of_ble_eq_true rfl) (x_X4_moveTo_0 hF)
abbrev M_X1_put : zM := (RX1, (cX1_put, (3, (none, false))))
def F_X1_put_0 (l0 l1 l2 : Int) (h : zH) : zO := zb (F_X11_within l1 8 h) (fun r1 h1 => if r1 = 0 then (some (0, h1)) else (if 0 ≤ l0 then (if 0 ≤ gt h1 1 l0 3 then (if 0 ≤ l1 ∧ l1 < 8 then (some (0, (pt h1 20 (gt h1 1 l0 3) l1 l2))) else none) else none) else none))
set_option maxHeartbeats 1000000 in
theorem x_X1_put_0 {l0 l1 l2 : Int} {h : zH} {r : Int} {h' : zH} (hF : F_X1_put_0 l0 l1 l2 h = some (r, h')) : Ex 1 M_X1_put 0 [some (vr 1 l0), some (vi l1), some (vr 4 l2)] [] h (fun r1 h1 => r1 = none ∧ h1 = h') := by
  unfold F_X1_put_0 at hF
  refine ex_iload_n (q := 1) dX1_put_0 rfl rfl ?_
  refine ex_bipush (q := 3) dX1_put_1 rfl (by decide) ⟨by decide, by decide⟩ ?_
  obtain ⟨r1, h1, e1, hF⟩ := zb_some hF
  refine ex_callS (d' := 0) (q := 6) (as := [vi l1, vi 8]) (st1 := [vi r1]) (r := (some (vi r1))) (h2 := h1) dX1_put_3 rfl (run_X11_within e1) mc_X11_within ms_X11_within ml_X1_28 (by decide) rfl rfl (Nat.le_of_ble_eq_true rfl) rfl ?_
  refine ex_if_eq (q := 9) (tgt := 16) dX1_put_6 rfl (by decide) (fun c2 => ?_) (fun c2 => ?_)
  · have hF := ip c2 hF
    obtain ⟨rfl, rfl⟩ := zr hF
    exact ex_ret none rfl ⟨dX1_put_16, rfl⟩ ⟨rfl, rfl⟩
  · have hF := im c2 hF
    refine ex_aload_n (q := 10) dX1_put_9 rfl rfl ?_
    obtain ⟨g3, hF⟩ := zg hF
    refine ex_get (q := 13) (v := vr 20 (gt h1 1 l0 3)) 3 dX1_put_10 rfl fl_X1_11 g3 rfl rfl ?_
    refine ex_iload_n (q := 14) dX1_put_13 rfl rfl ?_
    refine ex_aload_n (q := 15) dX1_put_14 rfl rfl ?_
    obtain ⟨g4, hF⟩ := zg hF
    obtain ⟨g5, hF⟩ := zg hF
    refine ex_aast (q := 16) (kd := 4) dX1_put_15 rfl kd_20 (by decide) g4 g5.1 g5.2 ?_
    obtain ⟨rfl, rfl⟩ := zr hF
    exact ex_ret none rfl ⟨dX1_put_16, rfl⟩ ⟨rfl, rfl⟩
def F_X1_put (l0 l1 l2 : Int) (h : zH) : zO := F_X1_put_0 l0 l1 l2 h
theorem run_X1_put {l0 l1 l2 : Int} {h : zH} {r : Int} {h' : zH} (hF : F_X1_put l0 l1 l2 h = some (r, h')) : Run 1 yX1_put cX1_put 3 none [vr 1 l0, vi l1, vr 4 l2] h none h' := run_of (M := M_X1_put) (by decide) rfl (fun z => by cases z) (Nat.le_of_ble_eq_true rfl) (x_X1_put_0 hF)
abbrev M_X8_makeLoan : zM := (RX8, (cX8_makeLoan, (7, (none, false))))
def F_X8_makeLoan_65 (l1 l2 l6 : Int) (h : zH) : zO := if 0 ≤ l1 then (zb (F_X1_put l1 l2 l6 h) (fun r1 h1 => some (0, h1))) else none
set_option maxHeartbeats 1000000 in
theorem x_X8_makeLoan_65 {l1 l2 l6 : Int} {h : zH} {r : Int} {h' : zH} (hF : F_X8_makeLoan_65 l1 l2 l6 h = some (r, h')) : Ex 2 M_X8_makeLoan 65 [none, some (vr 1 l1), some (vi l2), none, none, none, some (vr 4 l6)] [] h (fun r1 h1 => r1 = none ∧ h1 = h') := by
  unfold F_X8_makeLoan_65 at hF
  refine ex_aload_n (q := 66) dX8_makeLoan_65 rfl rfl ?_
  refine ex_iload_n (q := 67) dX8_makeLoan_66 rfl rfl ?_
  refine ex_aload (q := 69) dX8_makeLoan_67 rfl rfl ?_
  obtain ⟨g2, hF⟩ := zg hF
  obtain ⟨r1, h1, e1, hF⟩ := zb_some hF
  refine ex_callV (d' := 1) (q := 72) (as := [vi l2, vr 4 l6]) (st1 := []) (r := none) (h2 := h1) dX8_makeLoan_69 rfl (run_X1_put e1) mc_X1_put mv_X1_put ml_X8_238 (by decide) g2 rfl rfl (Nat.le_of_ble_eq_true rfl) rfl ?_
  obtain ⟨rfl, rfl⟩ := zr hF
  exact ex_ret none rfl ⟨dX8_makeLoan_72, rfl⟩ ⟨rfl, rfl⟩
def F_X8_makeLoan_0 (l0 l1 l2 l3 l4 l5 : Int) (h : zH) : zO := if 0 ≤ l0 then (zb (F_X11_within (gt h 8 l0 9) 160 h) (fun r2 h2 => if r2 ≠ 0 then (if 0 ≤ gt h2 8 l0 8 then (if 0 ≤ gt h2 8 l0 9 ∧ gt h2 8 l0 9 < 160 then (if 0 ≤ gt h2 42 (gt h2 8 l0 8) (gt h2 8 l0 9) then (zb (F_X4_begin (gt h2 42 (gt h2 8 l0 8) (gt h2 8 l0 9)) l3 l4 l5 (pt h2 8 l0 9 (wI ((gt h2 8 l0 9) + 1)))) (fun r6 h6 => if l4 = 1 then (F_X8_makeLoan_65 l1 l2 (gt h2 42 (gt h2 8 l0 8) (gt h2 8 l0 9)) h6) else (if 0 ≤ gt h6 8 l0 6 then (if 0 ≤ gt h6 8 l0 7 ∧ gt h6 8 l0 7 < 91 then (zb (F_X4_moveTo (gt h2 42 (gt h2 8 l0 8) (gt h2 8 l0 9)) (gt h6 41 (gt h6 8 l0 6) (gt h6 8 l0 7)) h6) (fun r11 h11 => F_X8_makeLoan_65 l1 l2 (gt h2 42 (gt h2 8 l0 8) (gt h2 8 l0 9)) h11)) else none) else none))) else none) else none) else none) else (some (0, h2)))) else none
set_option maxHeartbeats 1000000 in
theorem x_X8_makeLoan_0 {l0 l1 l2 l3 l4 l5 : Int} {h : zH} {r : Int} {h' : zH} (hF : F_X8_makeLoan_0 l0 l1 l2 l3 l4 l5 h = some (r, h')) : Ex 2 M_X8_makeLoan 0 [some (vr 8 l0), some (vr 1 l1), some (vi l2), some (vr 6 l3), some (vi l4), some (vr 4 l5), none] [] h (fun r1 h1 => r1 = none ∧ h1 = h') := by
  unfold F_X8_makeLoan_0 at hF
  refine ex_aload_n (q := 1) dX8_makeLoan_0 rfl rfl ?_
  obtain ⟨g1, hF⟩ := zg hF
  refine ex_get (q := 4) (v := vi (gt h 8 l0 9)) 9 dX8_makeLoan_1 rfl fl_X8_72 g1 rfl rfl ?_
  refine ex_sipush (q := 7) dX8_makeLoan_4 rfl (by decide) ⟨by decide, by decide⟩ ?_
  obtain ⟨r2, h2, e2, hF⟩ := zb_some hF
  refine ex_callS (d' := 0) (q := 10) (as := [vi (gt h 8 l0 9), vi 160]) (st1 := [vi r2]) (r := (some (vi r2))) (h2 := h2) dX8_makeLoan_7 rfl (run_X11_within e2) mc_X11_within ms_X11_within ml_X8_227 (by decide) rfl rfl (Nat.le_of_ble_eq_true rfl) rfl ?_
  refine ex_if_ne (q := 13) (tgt := 14) dX8_makeLoan_10 rfl (by decide) (fun c3 => ?_) (fun c3 => ?_)
  · have hF := ip c3 hF
    refine ex_aload_n (q := 15) dX8_makeLoan_14 rfl rfl ?_
    refine ex_get (q := 18) (v := vr 42 (gt h2 8 l0 8)) 8 dX8_makeLoan_15 rfl fl_X8_31 g1 rfl rfl ?_
    refine ex_aload_n (q := 19) dX8_makeLoan_18 rfl rfl ?_
    refine ex_get (q := 22) (v := vi (gt h2 8 l0 9)) 9 dX8_makeLoan_19 rfl fl_X8_72 g1 rfl rfl ?_
    obtain ⟨g4, hF⟩ := zg hF
    obtain ⟨g5, hF⟩ := zg hF
    refine ex_aald (q := 23) 4 dX8_makeLoan_22 rfl kd_42 (by decide) g4 g5.1 g5.2 ?_
    refine ex_astore (q := 25) (lo' := [some (vr 8 l0), some (vr 1 l1), some (vi l2), some (vr 6 l3), some (vi l4), some (vr 4 l5), some (vr 4 (gt h2 42 (gt h2 8 l0 8) (gt h2 8 l0 9)))]) dX8_makeLoan_23 rfl (by decide) rfl rfl ?_
    refine ex_aload_n (q := 26) dX8_makeLoan_25 rfl rfl ?_
    refine ex_dup (q := 27) dX8_makeLoan_26 rfl (fun _ z => by cases z) ?_
    refine ex_get (q := 30) (v := vi (gt h2 8 l0 9)) 9 dX8_makeLoan_27 rfl fl_X8_72 g1 rfl rfl ?_
    refine ex_iconst (q := 31) dX8_makeLoan_30 rfl ⟨by decide, by decide⟩ ?_
    refine ex_iadd (q := 32) dX8_makeLoan_31 rfl ?_
    refine ex_put (q := 35) 9 dX8_makeLoan_32 rfl fl_X8_72 (by decide) g1 rfl rfl (fun z => by cases z) ?_
    refine ex_aload (q := 37) dX8_makeLoan_35 rfl rfl ?_
    refine ex_aload_n (q := 38) dX8_makeLoan_37 rfl rfl ?_
    refine ex_iload (q := 40) dX8_makeLoan_38 rfl rfl ?_
    refine ex_aload (q := 42) dX8_makeLoan_40 rfl rfl ?_
    obtain ⟨g7, hF⟩ := zg hF
    obtain ⟨r6, h6, e6, hF⟩ := zb_some hF
    refine ex_callV (d' := 0) (q := 45) (as := [vr 6 l3, vi l4, vr 4 l5]) (st1 := []) (r := none) (h2 := h6) dX8_makeLoan_42 rfl (run_X4_begin e6) mc_X4_begin mv_X4_begin ml_X8_231 (by decide) g7 rfl rfl (Nat.le_of_ble_eq_true rfl) rfl ?_
    refine ex_iload (q := 47) dX8_makeLoan_45 rfl rfl ?_
    refine ex_iconst (q := 48) dX8_makeLoan_47 rfl ⟨by decide, by decide⟩ ?_
    refine ex_icmp_eq (q := 51) (tgt := 65) dX8_makeLoan_48 rfl (by decide) (fun c8 => ?_) (fun c8 => ?_)
    · have hF := ip c8 hF
      exact ex_forget (lo' := [none, some (vr 1 l1), some (vi l2), none, none, none, some (vr 4 (gt h2 42 (gt h2 8 l0 8) (gt h2 8 l0 9)))]) ⟨Or.inl rfl, Or.inr rfl, Or.inr rfl, Or.inl rfl, Or.inl rfl, Or.inl rfl, Or.inr rfl, trivial⟩ (x_X8_makeLoan_65 hF)
    · have hF := im c8 hF
      refine ex_aload (q := 53) dX8_makeLoan_51 rfl rfl ?_
      refine ex_aload_n (q := 54) dX8_makeLoan_53 rfl rfl ?_
      refine ex_get (q := 57) (v := vr 41 (gt h6 8 l0 6)) 6 dX8_makeLoan_54 rfl fl_X8_25 g1 rfl rfl ?_
      refine ex_aload_n (q := 58) dX8_makeLoan_57 rfl rfl ?_
      refine ex_get (q := 61) (v := vi (gt h6 8 l0 7)) 7 dX8_makeLoan_58 rfl fl_X8_135 g1 rfl rfl ?_
      obtain ⟨g9, hF⟩ := zg hF
      obtain ⟨g10, hF⟩ := zg hF
      refine ex_aald (q := 62) 9 dX8_makeLoan_61 rfl kd_41 (by decide) g9 g10.1 g10.2 ?_
      obtain ⟨r11, h11, e11, hF⟩ := zb_some hF
      refine ex_callV (d' := 1) (q := 65) (as := [vr 9 (gt h6 41 (gt h6 8 l0 6) (gt h6 8 l0 7))]) (st1 := []) (r := none) (h2 := h11) dX8_makeLoan_62 rfl (run_X4_moveTo e11) mc_X4_moveTo mv_X4_moveTo ml_X8_234 (by decide) g7 rfl rfl (Nat.le_of_ble_eq_true rfl) rfl ?_
      exact ex_forget (lo' := [none, some (vr 1 l1), some (vi l2), none, none, none, some (vr 4 (gt h2 42 (gt h2 8 l0 8) (gt h2 8 l0 9)))]) ⟨Or.inl rfl, Or.inr rfl, Or.inr rfl, Or.inl rfl, Or.inl rfl, Or.inl rfl, Or.inr rfl, trivial⟩ (x_X8_makeLoan_65 hF)
  · have hF := im c3 hF
    obtain ⟨rfl, rfl⟩ := zr hF
    exact ex_ret none rfl ⟨dX8_makeLoan_13, rfl⟩ ⟨rfl, rfl⟩
def F_X8_makeLoan (l0 l1 l2 l3 l4 l5 : Int) (h : zH) : zO := F_X8_makeLoan_0 l0 l1 l2 l3 l4 l5 h
theorem run_X8_makeLoan {l0 l1 l2 l3 l4 l5 : Int} {h : zH} {r : Int} {h' : zH} (hF : F_X8_makeLoan l0 l1 l2 l3 l4 l5 h = some (r, h')) : Run 2 yX8_makeLoan cX8_makeLoan 7 none [vr 8 l0, vr 1 l1, vi l2, vr 6 l3, vi l4, vr 4 l5] h none h' := run_of (M := M_X8_makeLoan) (by decide) rfl (fun z => by cases z) (Nat.le_of_ble_eq_true rfl) (x_X8_makeLoan_0 hF)
abbrev M_X6_addToTrace : zM := (RX6, (cX6_addToTrace, (3, (none, false))))
def F_X6_addToTrace_0 (l0 l1 l2 : Int) (h : zH) : zO := if 0 ≤ l0 then (zb (F_X11_within (gt h 6 l0 7) 10 h) (fun r2 h2 => if r2 = 0 then (some (0, h2)) else (if 0 ≤ gt h2 6 l0 5 then (if 0 ≤ gt h2 6 l0 7 ∧ gt h2 6 l0 7 < 10 then (if 0 ≤ gt (pt h2 34 (gt h2 6 l0 5) (gt h2 6 l0 7) l1) 6 l0 6 then (if 0 ≤ gt (pt h2 34 (gt h2 6 l0 5) (gt h2 6 l0 7) l1) 6 l0 7 ∧ gt (pt h2 34 (gt h2 6 l0 5) (gt h2 6 l0 7) l1) 6 l0 7 < 10 then (zl (pt (pt h2 34 (gt h2 6 l0 5) (gt h2 6 l0 7) l1) 35 (gt (pt h2 34 (gt h2 6 l0 5) (gt h2 6 l0 7) l1) 6 l0 6) (gt (pt h2 34 (gt h2 6 l0 5) (gt h2 6 l0 7) l1) 6 l0 7) l2) (fun k8 => some (0, (pt k8 6 l0 7 (wI ((gt k8 6 l0 7) + 1)))))) else none) else none) else none) else none))) else none
set_option maxHeartbeats 1000000 in
theorem x_X6_addToTrace_0 {l0 l1 l2 : Int} {h : zH} {r : Int} {h' : zH} (hF : F_X6_addToTrace_0 l0 l1 l2 h = some (r, h')) : Ex 1 M_X6_addToTrace 0 [some (vr 6 l0), some (vi l1), some (vi l2)] [] h (fun r1 h1 => r1 = none ∧ h1 = h') := by
  unfold F_X6_addToTrace_0 at hF
  refine ex_aload_n (q := 1) dX6_addToTrace_0 rfl rfl ?_
  obtain ⟨g1, hF⟩ := zg hF
  refine ex_get (q := 4) (v := vi (gt h 6 l0 7)) 7 dX6_addToTrace_1 rfl fl_X6_28 g1 rfl rfl ?_
  refine ex_bipush (q := 6) dX6_addToTrace_4 rfl (by decide) ⟨by decide, by decide⟩ ?_
  obtain ⟨r2, h2, e2, hF⟩ := zb_some hF
  refine ex_callS (d' := 0) (q := 9) (as := [vi (gt h 6 l0 7), vi 10]) (st1 := [vi r2]) (r := (some (vi r2))) (h2 := h2) dX6_addToTrace_6 rfl (run_X11_within e2) mc_X11_within ms_X11_within ml_X6_31 (by decide) rfl rfl (Nat.le_of_ble_eq_true rfl) rfl ?_
  refine ex_if_eq (q := 12) (tgt := 42) dX6_addToTrace_9 rfl (by decide) (fun c3 => ?_) (fun c3 => ?_)
  · have hF := ip c3 hF
    obtain ⟨rfl, rfl⟩ := zr hF
    exact ex_ret none rfl ⟨dX6_addToTrace_42, rfl⟩ ⟨rfl, rfl⟩
  · have hF := im c3 hF
    refine ex_aload_n (q := 13) dX6_addToTrace_12 rfl rfl ?_
    refine ex_get (q := 16) (v := vr 34 (gt h2 6 l0 5)) 5 dX6_addToTrace_13 rfl fl_X6_21 g1 rfl rfl ?_
    refine ex_aload_n (q := 17) dX6_addToTrace_16 rfl rfl ?_
    refine ex_get (q := 20) (v := vi (gt h2 6 l0 7)) 7 dX6_addToTrace_17 rfl fl_X6_28 g1 rfl rfl ?_
    refine ex_iload_n (q := 21) dX6_addToTrace_20 rfl rfl ?_
    obtain ⟨g4, hF⟩ := zg hF
    obtain ⟨g5, hF⟩ := zg hF
    refine ex_iast (q := 22) dX6_addToTrace_21 rfl kd_34 g4 g5.1 g5.2 ?_
    refine ex_aload_n (q := 23) dX6_addToTrace_22 rfl rfl ?_
    refine ex_get (q := 26) (v := vr 35 (gt (pt h2 34 (gt h2 6 l0 5) (gt h2 6 l0 7) l1) 6 l0 6)) 6 dX6_addToTrace_23 rfl fl_X6_25 g1 rfl rfl ?_
    refine ex_aload_n (q := 27) dX6_addToTrace_26 rfl rfl ?_
    refine ex_get (q := 30) (v := vi (gt (pt h2 34 (gt h2 6 l0 5) (gt h2 6 l0 7) l1) 6 l0 7)) 7 dX6_addToTrace_27 rfl fl_X6_28 g1 rfl rfl ?_
    refine ex_iload_n (q := 31) dX6_addToTrace_30 rfl rfl ?_
    obtain ⟨g6, hF⟩ := zg hF
    obtain ⟨g7, hF⟩ := zg hF
    refine ex_iast (q := 32) dX6_addToTrace_31 rfl kd_35 g6 g7.1 g7.2 ?_
    have hF := zl_e hF
    generalize pt (pt h2 34 (gt h2 6 l0 5) (gt h2 6 l0 7) l1) 35 (gt (pt h2 34 (gt h2 6 l0 5) (gt h2 6 l0 7) l1) 6 l0 6) (gt (pt h2 34 (gt h2 6 l0 5) (gt h2 6 l0 7) l1) 6 l0 7) l2 = k8 at hF ⊢
    refine ex_aload_n (q := 33) dX6_addToTrace_32 rfl rfl ?_
    refine ex_dup (q := 34) dX6_addToTrace_33 rfl (fun _ z => by cases z) ?_
    refine ex_get (q := 37) (v := vi (gt k8 6 l0 7)) 7 dX6_addToTrace_34 rfl fl_X6_28 g1 rfl rfl ?_
    refine ex_iconst (q := 38) dX6_addToTrace_37 rfl ⟨by decide, by decide⟩ ?_
    refine ex_iadd (q := 39) dX6_addToTrace_38 rfl ?_
    refine ex_put (q := 42) 7 dX6_addToTrace_39 rfl fl_X6_28 (by decide) g1 rfl rfl (fun z => by cases z) ?_
    obtain ⟨rfl, rfl⟩ := zr hF
    exact ex_ret none rfl ⟨dX6_addToTrace_42, rfl⟩ ⟨rfl, rfl⟩
def F_X6_addToTrace (l0 l1 l2 : Int) (h : zH) : zO := F_X6_addToTrace_0 l0 l1 l2 h
theorem run_X6_addToTrace {l0 l1 l2 : Int} {h : zH} {r : Int} {h' : zH} (hF : F_X6_addToTrace l0 l1 l2 h = some (r, h')) : Run 1 yX6_addToTrace cX6_addToTrace 3 none [vr 6 l0, vi l1, vi l2] h none h' := run_of (M := M_X6_addToTrace) (by decide) rfl (fun z => by cases z) (Nat.le_of_ble_eq_true rfl) (x_X6_addToTrace_0 hF)
abbrev M_X8_hire : zM := (RX8, (cX8_hire, (6, (none, false))))
def F_X8_hire_42b (ag42 : Int → Int → Int → zH → zO) (l0 l3 l5 : Int) (h : zH) : zO := if 0 ≤ l0 then (if gt h 8 l0 3 < l5 then (some (0, h)) else (if 10 < l5 then (some (0, h)) else (if 0 ≤ gt h 8 l0 2 then (if 0 ≤ l5 ∧ l5 < 11 then (if 0 ≤ gt h 39 (gt h 8 l0 2) l5 then (if 0 ≤ l3 then (zb (F_X6_addToTrace l3 (gt h 1 (gt h 39 (gt h 8 l0 2) l5) 1) (gt h 1 (gt h 39 (gt h 8 l0 2) l5) 2) h) (fun r7 h7 => ag42 l0 l3 (wI (l5 + 1)) h7)) else none) else none) else none) else none))) else none
set_option maxHeartbeats 1000000 in
theorem x_X8_hire_42b {ag42 : Int → Int → Int → zH → zO} (hag42 : ∀ (l0 l3 l5 : Int) (h : zH) (r : Int) (h' : zH), ag42 l0 l3 l5 h = some (r, h') → Ex 3 M_X8_hire 42 [some (vr 8 l0), none, none, some (vr 6 l3), none, some (vi l5)] [] h (fun r1 h1 => r1 = none ∧ h1 = h')) {l0 l3 l5 : Int} {h : zH} {r : Int} {h' : zH} (hF : F_X8_hire_42b ag42 l0 l3 l5 h = some (r, h')) : Ex 3 M_X8_hire 42 [some (vr 8 l0), none, none, some (vr 6 l3), none, some (vi l5)] [] h (fun r1 h1 => r1 = none ∧ h1 = h') := by
  unfold F_X8_hire_42b at hF
  refine ex_iload (q := 44) dX8_hire_42 rfl rfl ?_
  refine ex_aload_n (q := 45) dX8_hire_44 rfl rfl ?_
  obtain ⟨g1, hF⟩ := zg hF
  refine ex_get (q := 48) (v := vi (gt h 8 l0 3)) 3 dX8_hire_45 rfl fl_X8_94 g1 rfl rfl ?_
  refine ex_icmp_gt (q := 51) (tgt := 88) dX8_hire_48 rfl (by decide) (fun c2 => ?_) (fun c2 => ?_)
  · have hF := ip c2 hF
    obtain ⟨rfl, rfl⟩ := zr hF
    exact ex_ret none rfl ⟨dX8_hire_88, rfl⟩ ⟨rfl, rfl⟩
  · have hF := im c2 hF
    refine ex_iload (q := 53) dX8_hire_51 rfl rfl ?_
    refine ex_bipush (q := 55) dX8_hire_53 rfl (by decide) ⟨by decide, by decide⟩ ?_
    refine ex_icmp_gt (q := 58) (tgt := 88) dX8_hire_55 rfl (by decide) (fun c3 => ?_) (fun c3 => ?_)
    · have hF := ip c3 hF
      obtain ⟨rfl, rfl⟩ := zr hF
      exact ex_ret none rfl ⟨dX8_hire_88, rfl⟩ ⟨rfl, rfl⟩
    · have hF := im c3 hF
      refine ex_aload_n (q := 59) dX8_hire_58 rfl rfl ?_
      refine ex_aload_n (q := 60) dX8_hire_59 rfl rfl ?_
      refine ex_get (q := 63) (v := vr 39 (gt h 8 l0 2)) 2 dX8_hire_60 rfl fl_X8_11 g1 rfl rfl ?_
      refine ex_iload (q := 65) dX8_hire_63 rfl rfl ?_
      obtain ⟨g4, hF⟩ := zg hF
      obtain ⟨g5, hF⟩ := zg hF
      refine ex_aald (q := 66) 1 dX8_hire_65 rfl kd_39 (by decide) g4 g5.1 g5.2 ?_
      obtain ⟨g6, hF⟩ := zg hF
      refine ex_get (q := 69) (v := vi (gt h 1 (gt h 39 (gt h 8 l0 2) l5) 1)) 1 dX8_hire_66 rfl fl_X8_221 g6 rfl rfl ?_
      refine ex_aload_n (q := 70) dX8_hire_69 rfl rfl ?_
      refine ex_get (q := 73) (v := vr 39 (gt h 8 l0 2)) 2 dX8_hire_70 rfl fl_X8_11 g1 rfl rfl ?_
      refine ex_iload (q := 75) dX8_hire_73 rfl rfl ?_
      refine ex_aald (q := 76) 1 dX8_hire_75 rfl kd_39 (by decide) g4 g5.1 g5.2 ?_
      refine ex_get (q := 79) (v := vi (gt h 1 (gt h 39 (gt h 8 l0 2) l5) 2)) 2 dX8_hire_76 rfl fl_X8_104 g6 rfl rfl ?_
      obtain ⟨g8, hF⟩ := zg hF
      obtain ⟨r7, h7, e7, hF⟩ := zb_some hF
      refine ex_callV (d' := 1) (q := 82) (as := [vi (gt h 1 (gt h 39 (gt h 8 l0 2) l5) 1), vi (gt h 1 (gt h 39 (gt h 8 l0 2) l5) 2)]) (st1 := []) (r := none) (h2 := h7) dX8_hire_79 rfl (run_X6_addToTrace e7) mc_X6_addToTrace mv_X6_addToTrace ml_X8_224 (by decide) g8 rfl rfl (Nat.le_of_ble_eq_true rfl) rfl ?_
      refine ex_iinc (q := 85) (lo' := [some (vr 8 l0), none, none, some (vr 6 l3), none, some (vi (wI (l5 + 1)))]) dX8_hire_82 rfl rfl (by decide) rfl rfl ?_
      refine ex_goto (q := 42) dX8_hire_85 (by decide) ?_
      exact ex_forget (lo' := [some (vr 8 l0), none, none, some (vr 6 l3), none, some (vi (wI (l5 + 1)))]) ⟨Or.inr rfl, Or.inl rfl, Or.inl rfl, Or.inr rfl, Or.inl rfl, Or.inr rfl, trivial⟩ (hag42 _ _ _ _ _ _ hF)
def F_X8_hire_42 : Nat → Int → Int → Int → zH → zO
  | 0, _, _, _, _ => none
  | n + 1, l0, l3, l5, h => F_X8_hire_42b (F_X8_hire_42 n) l0 l3 l5 h
theorem x_X8_hire_42 : ∀ (n : Nat) (l0 l3 l5 : Int) (h : zH) (r : Int) (h' : zH), F_X8_hire_42 n l0 l3 l5 h = some (r, h') → Ex 3 M_X8_hire 42 [some (vr 8 l0), none, none, some (vr 6 l3), none, some (vi l5)] [] h (fun r1 h1 => r1 = none ∧ h1 = h')
  | 0, _, _, _, _, _, _, hF => by cases hF
  | n + 1, _, _, _, _, _, _, hF => x_X8_hire_42b (x_X8_hire_42 n) hF
def F_X8_hire_0 (l0 l1 l2 l3 l4 : Int) (h : zH) : zO := if 0 ≤ l0 then (if l4 ≠ 1 then (if 0 ≤ gt h 8 l0 0 then (zb (F_X3_giveOut (gt h 8 l0 0) l3 (gt h 8 l0 11) 0 h) (fun r3 h3 => zb (F_X8_makeLoan l0 l1 l2 l3 l4 (-1) h3) (fun r5 h5 => if l4 ≠ 1 then (some (0, h5)) else (F_X8_hire_42 zF l0 l3 1 h5)))) else none) else (if 0 ≤ gt h 8 l0 0 then (zb (F_X3_giveOut (gt h 8 l0 0) l3 (gt h 8 l0 11) 1 h) (fun r7 h7 => zb (F_X8_makeLoan l0 l1 l2 l3 l4 (-1) h7) (fun r9 h9 => if l4 ≠ 1 then (some (0, h9)) else (F_X8_hire_42 zF l0 l3 1 h9)))) else none)) else none
set_option maxHeartbeats 1000000 in
theorem x_X8_hire_0 {l0 l1 l2 l3 l4 : Int} {h : zH} {r : Int} {h' : zH} (hF : F_X8_hire_0 l0 l1 l2 l3 l4 h = some (r, h')) : Ex 3 M_X8_hire 0 [some (vr 8 l0), some (vr 1 l1), some (vi l2), some (vr 6 l3), some (vi l4), none] [] h (fun r1 h1 => r1 = none ∧ h1 = h') := by
  unfold F_X8_hire_0 at hF
  refine ex_aload_n (q := 1) dX8_hire_0 rfl rfl ?_
  obtain ⟨g1, hF⟩ := zg hF
  refine ex_get (q := 4) (v := vr 3 (gt h 8 l0 0)) 0 dX8_hire_1 rfl fl_X8_46 g1 rfl rfl ?_
  refine ex_aload_n (q := 5) dX8_hire_4 rfl rfl ?_
  refine ex_aload_n (q := 6) dX8_hire_5 rfl rfl ?_
  refine ex_get (q := 9) (v := vi (gt h 8 l0 11)) 11 dX8_hire_6 rfl fl_X8_129 g1 rfl rfl ?_
  refine ex_iload (q := 11) dX8_hire_9 rfl rfl ?_
  refine ex_iconst (q := 12) dX8_hire_11 rfl ⟨by decide, by decide⟩ ?_
  refine ex_icmp_ne (q := 15) (tgt := 19) dX8_hire_12 rfl (by decide) (fun c2 => ?_) (fun c2 => ?_)
  · have hF := ip c2 hF
    refine ex_iconst (q := 20) dX8_hire_19 rfl ⟨by decide, by decide⟩ ?_
    obtain ⟨g4, hF⟩ := zg hF
    obtain ⟨r3, h3, e3, hF⟩ := zb_some hF
    refine ex_callV (d' := 1) (q := 23) (as := [vr 6 l3, vi (gt h 8 l0 11), vi 0]) (st1 := []) (r := none) (h2 := h3) dX8_hire_20 rfl (run_X3_giveOut e3) mc_X3_giveOut mv_X3_giveOut ml_X8_213 (by decide) g4 rfl rfl (Nat.le_of_ble_eq_true rfl) rfl ?_
    refine ex_aload_n (q := 24) dX8_hire_23 rfl rfl ?_
    refine ex_aload_n (q := 25) dX8_hire_24 rfl rfl ?_
    refine ex_iload_n (q := 26) dX8_hire_25 rfl rfl ?_
    refine ex_aload_n (q := 27) dX8_hire_26 rfl rfl ?_
    refine ex_iload (q := 29) dX8_hire_27 rfl rfl ?_
    refine ex_null (q := 30) 4 dX8_hire_29 rfl ?_
    obtain ⟨r5, h5, e5, hF⟩ := zb_some hF
    refine ex_callV (d' := 2) (q := 33) (as := [vr 1 l1, vi l2, vr 6 l3, vi l4, vr 4 (-1)]) (st1 := []) (r := none) (h2 := h5) dX8_hire_30 rfl (run_X8_makeLoan e5) mc_X8_makeLoan mv_X8_makeLoan ml_X8_217 (by decide) g1 rfl rfl (Nat.le_of_ble_eq_true rfl) rfl ?_
    refine ex_iload (q := 35) dX8_hire_33 rfl rfl ?_
    refine ex_iconst (q := 36) dX8_hire_35 rfl ⟨by decide, by decide⟩ ?_
    refine ex_icmp_ne (q := 39) (tgt := 88) dX8_hire_36 rfl (by decide) (fun c6 => ?_) (fun c6 => ?_)
    · have hF := ip c6 hF
      obtain ⟨rfl, rfl⟩ := zr hF
      exact ex_ret none rfl ⟨dX8_hire_88, rfl⟩ ⟨rfl, rfl⟩
    · have hF := im c6 hF
      refine ex_iconst (q := 40) dX8_hire_39 rfl ⟨by decide, by decide⟩ ?_
      refine ex_istore (q := 42) (lo' := [some (vr 8 l0), some (vr 1 l1), some (vi l2), some (vr 6 l3), some (vi l4), some (vi 1)]) dX8_hire_40 rfl (by decide) rfl rfl ?_
      exact ex_forget (lo' := [some (vr 8 l0), none, none, some (vr 6 l3), none, some (vi 1)]) ⟨Or.inr rfl, Or.inl rfl, Or.inl rfl, Or.inr rfl, Or.inl rfl, Or.inr rfl, trivial⟩ (x_X8_hire_42 _ _ _ _ _ _ _ hF)
  · have hF := im c2 hF
    refine ex_iconst (q := 16) dX8_hire_15 rfl ⟨by decide, by decide⟩ ?_
    refine ex_goto (q := 20) dX8_hire_16 (by decide) ?_
    obtain ⟨g8, hF⟩ := zg hF
    obtain ⟨r7, h7, e7, hF⟩ := zb_some hF
    refine ex_callV (d' := 1) (q := 23) (as := [vr 6 l3, vi (gt h 8 l0 11), vi 1]) (st1 := []) (r := none) (h2 := h7) dX8_hire_20 rfl (run_X3_giveOut e7) mc_X3_giveOut mv_X3_giveOut ml_X8_213 (by decide) g8 rfl rfl (Nat.le_of_ble_eq_true rfl) rfl ?_
    refine ex_aload_n (q := 24) dX8_hire_23 rfl rfl ?_
    refine ex_aload_n (q := 25) dX8_hire_24 rfl rfl ?_
    refine ex_iload_n (q := 26) dX8_hire_25 rfl rfl ?_
    refine ex_aload_n (q := 27) dX8_hire_26 rfl rfl ?_
    refine ex_iload (q := 29) dX8_hire_27 rfl rfl ?_
    refine ex_null (q := 30) 4 dX8_hire_29 rfl ?_
    obtain ⟨r9, h9, e9, hF⟩ := zb_some hF
    refine ex_callV (d' := 2) (q := 33) (as := [vr 1 l1, vi l2, vr 6 l3, vi l4, vr 4 (-1)]) (st1 := []) (r := none) (h2 := h9) dX8_hire_30 rfl (run_X8_makeLoan e9) mc_X8_makeLoan mv_X8_makeLoan ml_X8_217 (by decide) g1 rfl rfl (Nat.le_of_ble_eq_true rfl) rfl ?_
    refine ex_iload (q := 35) dX8_hire_33 rfl rfl ?_
    refine ex_iconst (q := 36) dX8_hire_35 rfl ⟨by decide, by decide⟩ ?_
    refine ex_icmp_ne (q := 39) (tgt := 88) dX8_hire_36 rfl (by decide) (fun c10 => ?_) (fun c10 => ?_)
    · have hF := ip c10 hF
      obtain ⟨rfl, rfl⟩ := zr hF
      exact ex_ret none rfl ⟨dX8_hire_88, rfl⟩ ⟨rfl, rfl⟩
    · have hF := im c10 hF
      refine ex_iconst (q := 40) dX8_hire_39 rfl ⟨by decide, by decide⟩ ?_
      refine ex_istore (q := 42) (lo' := [some (vr 8 l0), some (vr 1 l1), some (vi l2), some (vr 6 l3), some (vi l4), some (vi 1)]) dX8_hire_40 rfl (by decide) rfl rfl ?_
      exact ex_forget (lo' := [some (vr 8 l0), none, none, some (vr 6 l3), none, some (vi 1)]) ⟨Or.inr rfl, Or.inl rfl, Or.inl rfl, Or.inr rfl, Or.inl rfl, Or.inr rfl, trivial⟩ (x_X8_hire_42 _ _ _ _ _ _ _ hF)
def F_X8_hire (l0 l1 l2 l3 l4 : Int) (h : zH) : zO := F_X8_hire_0 l0 l1 l2 l3 l4 h
theorem run_X8_hire {l0 l1 l2 l3 l4 : Int} {h : zH} {r : Int} {h' : zH} (hF : F_X8_hire l0 l1 l2 l3 l4 h = some (r, h')) : Run 3 yX8_hire cX8_hire 6 none [vr 8 l0, vr 1 l1, vi l2, vr 6 l3, vi l4] h none h' := run_of (M := M_X8_hire) (by decide) rfl (fun z => by cases z) (Nat.le_of_ble_eq_true rfl) (x_X8_hire_0 hF)
abbrev M_X8_borrow : zM := (RX8, (cX8_borrow, (6, (none, false))))
def F_X8_borrow_23 (l0 l1 l3 : Int) (h : zH) : zO := if 0 ≤ l0 then (zb (F_X8_fail l0 l1 2 l3 h) (fun r1 h1 => some (0, h1))) else none
set_option maxHeartbeats 1000000 in
theorem x_X8_borrow_23 {l0 l1 l3 : Int} {h : zH} {r : Int} {h' : zH} (hF : F_X8_borrow_23 l0 l1 l3 h = some (r, h')) : Ex 4 M_X8_borrow 23 [some (vr 8 l0), some (vr 1 l1), none, some (vi l3), none, none] [] h (fun r1 h1 => r1 = none ∧ h1 = h') := by
  unfold F_X8_borrow_23 at hF
  refine ex_aload_n (q := 24) dX8_borrow_23 rfl rfl ?_
  refine ex_aload_n (q := 25) dX8_borrow_24 rfl rfl ?_
  refine ex_iconst (q := 26) dX8_borrow_25 rfl ⟨by decide, by decide⟩ ?_
  refine ex_iload_n (q := 27) dX8_borrow_26 rfl rfl ?_
  obtain ⟨g2, hF⟩ := zg hF
  obtain ⟨r1, h1, e1, hF⟩ := zb_some hF
  refine ex_callV (d' := 2) (q := 30) (as := [vr 1 l1, vi 2, vi l3]) (st1 := []) (r := none) (h2 := h1) dX8_borrow_27 rfl (run_X8_fail e1) mc_X8_fail mv_X8_fail ml_X8_189 (by decide) g2 rfl rfl (Nat.le_of_ble_eq_true rfl) rfl ?_
  refine ex_goto (q := 43) dX8_borrow_30 (by decide) ?_
  obtain ⟨rfl, rfl⟩ := zr hF
  exact ex_ret none rfl ⟨dX8_borrow_43, rfl⟩ ⟨rfl, rfl⟩
def F_X8_borrow_0 (l0 l1 l2 l3 l4 : Int) (h : zH) : zO := if 0 ≤ l0 then (if 0 ≤ gt h 8 l0 0 then (zb (F_X3_find (gt h 8 l0 0) l3 h) (fun r2 h2 => if r2 = -1 then (F_X8_borrow_23 l0 l1 l3 h2) else (if 0 ≤ r2 then (if gt h2 6 r2 3 = 0 then (zb (F_X8_hire l0 l1 l2 r2 l4 h2) (fun r7 h7 => some (0, h7))) else (F_X8_borrow_23 l0 l1 l3 h2)) else none))) else none) else none
set_option maxHeartbeats 1000000 in
theorem x_X8_borrow_0 {l0 l1 l2 l3 l4 : Int} {h : zH} {r : Int} {h' : zH} (hF : F_X8_borrow_0 l0 l1 l2 l3 l4 h = some (r, h')) : Ex 4 M_X8_borrow 0 [some (vr 8 l0), some (vr 1 l1), some (vi l2), some (vi l3), some (vi l4), none] [] h (fun r1 h1 => r1 = none ∧ h1 = h') := by
  unfold F_X8_borrow_0 at hF
  refine ex_aload_n (q := 1) dX8_borrow_0 rfl rfl ?_
  obtain ⟨g1, hF⟩ := zg hF
  refine ex_get (q := 4) (v := vr 3 (gt h 8 l0 0)) 0 dX8_borrow_1 rfl fl_X8_46 g1 rfl rfl ?_
  refine ex_iload_n (q := 5) dX8_borrow_4 rfl rfl ?_
  obtain ⟨g3, hF⟩ := zg hF
  obtain ⟨r2, h2, e2, hF⟩ := zb_some hF
  refine ex_callV (d' := 1) (q := 8) (as := [vi l3]) (st1 := [vr 6 r2]) (r := (some (vr 6 r2))) (h2 := h2) dX8_borrow_5 rfl (run_X3_find e2) mc_X3_find mv_X3_find ml_X8_195 (by decide) g3 rfl rfl (Nat.le_of_ble_eq_true rfl) rfl ?_
  refine ex_astore (q := 10) (lo' := [some (vr 8 l0), some (vr 1 l1), some (vi l2), some (vi l3), some (vi l4), some (vr 6 r2)]) dX8_borrow_8 rfl (by decide) rfl rfl ?_
  refine ex_aload (q := 12) dX8_borrow_10 rfl rfl ?_
  refine ex_ifnull (q := 15) (tgt := 23) dX8_borrow_12 rfl (by decide) (fun c4 => ?_) (fun c4 => ?_)
  · have hF := ip c4 hF
    exact ex_forget (lo' := [some (vr 8 l0), some (vr 1 l1), none, some (vi l3), none, none]) ⟨Or.inr rfl, Or.inr rfl, Or.inl rfl, Or.inr rfl, Or.inl rfl, Or.inl rfl, trivial⟩ (x_X8_borrow_23 hF)
  · have hF := im c4 hF
    refine ex_aload (q := 17) dX8_borrow_15 rfl rfl ?_
    obtain ⟨g5, hF⟩ := zg hF
    refine ex_get (q := 20) (v := vi (gt h2 6 r2 3)) 3 dX8_borrow_17 rfl fl_X8_201 g5 rfl rfl ?_
    refine ex_if_eq (q := 23) (tgt := 33) dX8_borrow_20 rfl (by decide) (fun c6 => ?_) (fun c6 => ?_)
    · have hF := ip c6 hF
      refine ex_aload_n (q := 34) dX8_borrow_33 rfl rfl ?_
      refine ex_aload_n (q := 35) dX8_borrow_34 rfl rfl ?_
      refine ex_iload_n (q := 36) dX8_borrow_35 rfl rfl ?_
      refine ex_aload (q := 38) dX8_borrow_36 rfl rfl ?_
      refine ex_iload (q := 40) dX8_borrow_38 rfl rfl ?_
      obtain ⟨r7, h7, e7, hF⟩ := zb_some hF
      refine ex_callV (d' := 3) (q := 43) (as := [vr 1 l1, vi l2, vr 6 r2, vi l4]) (st1 := []) (r := none) (h2 := h7) dX8_borrow_40 rfl (run_X8_hire e7) mc_X8_hire mv_X8_hire ml_X8_206 (by decide) g1 rfl rfl (Nat.le_of_ble_eq_true rfl) rfl ?_
      obtain ⟨rfl, rfl⟩ := zr hF
      exact ex_ret none rfl ⟨dX8_borrow_43, rfl⟩ ⟨rfl, rfl⟩
    · have hF := im c6 hF
      exact ex_forget (lo' := [some (vr 8 l0), some (vr 1 l1), none, some (vi l3), none, none]) ⟨Or.inr rfl, Or.inr rfl, Or.inl rfl, Or.inr rfl, Or.inl rfl, Or.inl rfl, trivial⟩ (x_X8_borrow_23 hF)
def F_X8_borrow (l0 l1 l2 l3 l4 : Int) (h : zH) : zO := F_X8_borrow_0 l0 l1 l2 l3 l4 h
theorem run_X8_borrow {l0 l1 l2 l3 l4 : Int} {h : zH} {r : Int} {h' : zH} (hF : F_X8_borrow l0 l1 l2 l3 l4 h = some (r, h')) : Run 4 yX8_borrow cX8_borrow 6 none [vr 8 l0, vr 1 l1, vi l2, vi l3, vi l4] h none h' := run_of (M := M_X8_borrow) (by decide) rfl (fun z => by cases z) (Nat.le_of_ble_eq_true rfl) (x_X8_borrow_0 hF)
abbrev M_X3_firstOnRack : zM := (RX3, (cX3_firstOnRack, (4, ((some (.object "HireScopes$Part")), false))))
def F_X3_firstOnRack_2b (ag2 : Int → Int → Int → zH → zO) (l0 l1 l2 : Int) (h : zH) : zO := if 0 ≤ l0 then (if gt h 3 l0 1 ≤ l2 then (some ((-1), h)) else (if 0 ≤ gt h 3 l0 0 then (if 0 ≤ l2 ∧ l2 < 60 then (if gt h 27 (gt h 3 l0 0) l2 = -1 then (ag2 l0 l1 (wI (l2 + 1)) h) else (if 0 ≤ gt h 27 (gt h 3 l0 0) l2 then (if gt h 6 (gt h 27 (gt h 3 l0 0) l2) 1 ≠ l1 then (ag2 l0 l1 (wI (l2 + 1)) h) else (if gt h 6 (gt h 27 (gt h 3 l0 0) l2) 3 ≠ 0 then (ag2 l0 l1 (wI (l2 + 1)) h) else (some (gt h 27 (gt h 3 l0 0) l2, h)))) else none)) else none) else none)) else none
set_option maxHeartbeats 1000000 in
theorem x_X3_firstOnRack_2b {ag2 : Int → Int → Int → zH → zO} (hag2 : ∀ (l0 l1 l2 : Int) (h : zH) (r : Int) (h' : zH), ag2 l0 l1 l2 h = some (r, h') → Ex 0 M_X3_firstOnRack 2 [some (vr 3 l0), some (vi l1), some (vi l2), none] [] h (fun r1 h1 => r1 = some (vr 6 r) ∧ h1 = h')) {l0 l1 l2 : Int} {h : zH} {r : Int} {h' : zH} (hF : F_X3_firstOnRack_2b ag2 l0 l1 l2 h = some (r, h')) : Ex 0 M_X3_firstOnRack 2 [some (vr 3 l0), some (vi l1), some (vi l2), none] [] h (fun r1 h1 => r1 = some (vr 6 r) ∧ h1 = h') := by
  unfold F_X3_firstOnRack_2b at hF
  refine ex_iload_n (q := 3) dX3_firstOnRack_2 rfl rfl ?_
  refine ex_aload_n (q := 4) dX3_firstOnRack_3 rfl rfl ?_
  obtain ⟨g1, hF⟩ := zg hF
  refine ex_get (q := 7) (v := vi (gt h 3 l0 1)) 1 dX3_firstOnRack_4 rfl fl_X3_42 g1 rfl rfl ?_
  refine ex_icmp_ge (q := 10) (tgt := 44) dX3_firstOnRack_7 rfl (by decide) (fun c2 => ?_) (fun c2 => ?_)
  · have hF := ip c2 hF
    refine ex_null (q := 45) 6 dX3_firstOnRack_44 rfl ?_
    obtain ⟨rfl, rfl⟩ := zr hF
    exact ex_ret (some (vr 6 (-1))) rfl ⟨dX3_firstOnRack_45, _, rfl⟩ ⟨rfl, rfl⟩
  · have hF := im c2 hF
    refine ex_aload_n (q := 11) dX3_firstOnRack_10 rfl rfl ?_
    refine ex_get (q := 14) (v := vr 27 (gt h 3 l0 0)) 0 dX3_firstOnRack_11 rfl fl_X3_11 g1 rfl rfl ?_
    refine ex_iload_n (q := 15) dX3_firstOnRack_14 rfl rfl ?_
    obtain ⟨g3, hF⟩ := zg hF
    obtain ⟨g4, hF⟩ := zg hF
    refine ex_aald (q := 16) 6 dX3_firstOnRack_15 rfl kd_27 (by decide) g3 g4.1 g4.2 ?_
    refine ex_astore_n (q := 17) (lo' := [some (vr 3 l0), some (vi l1), some (vi l2), some (vr 6 (gt h 27 (gt h 3 l0 0) l2))]) dX3_firstOnRack_16 rfl (by decide) rfl rfl ?_
    refine ex_aload_n (q := 18) dX3_firstOnRack_17 rfl rfl ?_
    refine ex_ifnull (q := 21) (tgt := 38) dX3_firstOnRack_18 rfl (by decide) (fun c5 => ?_) (fun c5 => ?_)
    · have hF := ip c5 hF
      refine ex_iinc (q := 41) (lo' := [some (vr 3 l0), some (vi l1), some (vi (wI (l2 + 1))), some (vr 6 (gt h 27 (gt h 3 l0 0) l2))]) dX3_firstOnRack_38 rfl rfl (by decide) rfl rfl ?_
      refine ex_goto (q := 2) dX3_firstOnRack_41 (by decide) ?_
      exact ex_forget (lo' := [some (vr 3 l0), some (vi l1), some (vi (wI (l2 + 1))), none]) ⟨Or.inr rfl, Or.inr rfl, Or.inr rfl, Or.inl rfl, trivial⟩ (hag2 _ _ _ _ _ _ hF)
    · have hF := im c5 hF
      refine ex_aload_n (q := 22) dX3_firstOnRack_21 rfl rfl ?_
      obtain ⟨g6, hF⟩ := zg hF
      refine ex_get (q := 25) (v := vi (gt h 6 (gt h 27 (gt h 3 l0 0) l2) 1)) 1 dX3_firstOnRack_22 rfl fl_X3_63 g6 rfl rfl ?_
      refine ex_iload_n (q := 26) dX3_firstOnRack_25 rfl rfl ?_
      refine ex_icmp_ne (q := 29) (tgt := 38) dX3_firstOnRack_26 rfl (by decide) (fun c7 => ?_) (fun c7 => ?_)
      · have hF := ip c7 hF
        refine ex_iinc (q := 41) (lo' := [some (vr 3 l0), some (vi l1), some (vi (wI (l2 + 1))), some (vr 6 (gt h 27 (gt h 3 l0 0) l2))]) dX3_firstOnRack_38 rfl rfl (by decide) rfl rfl ?_
        refine ex_goto (q := 2) dX3_firstOnRack_41 (by decide) ?_
        exact ex_forget (lo' := [some (vr 3 l0), some (vi l1), some (vi (wI (l2 + 1))), none]) ⟨Or.inr rfl, Or.inr rfl, Or.inr rfl, Or.inl rfl, trivial⟩ (hag2 _ _ _ _ _ _ hF)
      · have hF := im c7 hF
        refine ex_aload_n (q := 30) dX3_firstOnRack_29 rfl rfl ?_
        refine ex_get (q := 33) (v := vi (gt h 6 (gt h 27 (gt h 3 l0 0) l2) 3)) 3 dX3_firstOnRack_30 rfl fl_X3_66 g6 rfl rfl ?_
        refine ex_if_ne (q := 36) (tgt := 38) dX3_firstOnRack_33 rfl (by decide) (fun c8 => ?_) (fun c8 => ?_)
        · have hF := ip c8 hF
          refine ex_iinc (q := 41) (lo' := [some (vr 3 l0), some (vi l1), some (vi (wI (l2 + 1))), some (vr 6 (gt h 27 (gt h 3 l0 0) l2))]) dX3_firstOnRack_38 rfl rfl (by decide) rfl rfl ?_
          refine ex_goto (q := 2) dX3_firstOnRack_41 (by decide) ?_
          exact ex_forget (lo' := [some (vr 3 l0), some (vi l1), some (vi (wI (l2 + 1))), none]) ⟨Or.inr rfl, Or.inr rfl, Or.inr rfl, Or.inl rfl, trivial⟩ (hag2 _ _ _ _ _ _ hF)
        · have hF := im c8 hF
          refine ex_aload_n (q := 37) dX3_firstOnRack_36 rfl rfl ?_
          obtain ⟨rfl, rfl⟩ := zr hF
          exact ex_ret (some (vr 6 (gt h 27 (gt h 3 l0 0) l2))) rfl ⟨dX3_firstOnRack_37, _, rfl⟩ ⟨rfl, rfl⟩
def F_X3_firstOnRack_2 : Nat → Int → Int → Int → zH → zO
  | 0, _, _, _, _ => none
  | n + 1, l0, l1, l2, h => F_X3_firstOnRack_2b (F_X3_firstOnRack_2 n) l0 l1 l2 h
theorem x_X3_firstOnRack_2 : ∀ (n : Nat) (l0 l1 l2 : Int) (h : zH) (r : Int) (h' : zH), F_X3_firstOnRack_2 n l0 l1 l2 h = some (r, h') → Ex 0 M_X3_firstOnRack 2 [some (vr 3 l0), some (vi l1), some (vi l2), none] [] h (fun r1 h1 => r1 = some (vr 6 r) ∧ h1 = h')
  | 0, _, _, _, _, _, _, hF => by cases hF
  | n + 1, _, _, _, _, _, _, hF => x_X3_firstOnRack_2b (x_X3_firstOnRack_2 n) hF
def F_X3_firstOnRack_0 (l0 l1 : Int) (h : zH) : zO := F_X3_firstOnRack_2 zF l0 l1 0 h
set_option maxHeartbeats 1000000 in
theorem x_X3_firstOnRack_0 {l0 l1 : Int} {h : zH} {r : Int} {h' : zH} (hF : F_X3_firstOnRack_0 l0 l1 h = some (r, h')) : Ex 0 M_X3_firstOnRack 0 [some (vr 3 l0), some (vi l1), none, none] [] h (fun r1 h1 => r1 = some (vr 6 r) ∧ h1 = h') := by
  unfold F_X3_firstOnRack_0 at hF
  refine ex_iconst (q := 1) dX3_firstOnRack_0 rfl ⟨by decide, by decide⟩ ?_
  refine ex_istore_n (q := 2) (lo' := [some (vr 3 l0), some (vi l1), some (vi 0), none]) dX3_firstOnRack_1 rfl (by decide) rfl rfl ?_
  exact ex_forget (lo' := [some (vr 3 l0), some (vi l1), some (vi 0), none]) ⟨Or.inr rfl, Or.inr rfl, Or.inr rfl, Or.inl rfl, trivial⟩ (x_X3_firstOnRack_2 _ _ _ _ _ _ _ hF)
def F_X3_firstOnRack (l0 l1 : Int) (h : zH) : zO := F_X3_firstOnRack_0 l0 l1 h
theorem run_X3_firstOnRack {l0 l1 : Int} {h : zH} {r : Int} {h' : zH} (hF : F_X3_firstOnRack l0 l1 h = some (r, h')) : Run 0 yX3_firstOnRack cX3_firstOnRack 4 (some (.object "HireScopes$Part")) [vr 3 l0, vi l1] h (some (vr 6 r)) h' := run_of (M := M_X3_firstOnRack) (by decide) rfl (fun z => by cases z) (Nat.le_of_ble_eq_true rfl) (x_X3_firstOnRack_0 hF)
abbrev M_X8_take : zM := (RX8, (cX8_take, (5, (none, false))))
def F_X8_take_0 (l0 l1 l2 l3 : Int) (h : zH) : zO := if 0 ≤ l0 then (if 0 ≤ gt h 8 l0 0 then (zb (F_X3_firstOnRack (gt h 8 l0 0) l3 h) (fun r2 h2 => if r2 ≠ -1 then (zb (F_X8_hire l0 l1 l2 r2 0 h2) (fun r5 h5 => some (0, h5))) else (zb (F_X8_fail l0 l1 7 (-1) h2) (fun r6 h6 => some (0, h6))))) else none) else none
set_option maxHeartbeats 1000000 in
theorem x_X8_take_0 {l0 l1 l2 l3 : Int} {h : zH} {r : Int} {h' : zH} (hF : F_X8_take_0 l0 l1 l2 l3 h = some (r, h')) : Ex 4 M_X8_take 0 [some (vr 8 l0), some (vr 1 l1), some (vi l2), some (vi l3), none] [] h (fun r1 h1 => r1 = none ∧ h1 = h') := by
  unfold F_X8_take_0 at hF
  refine ex_aload_n (q := 1) dX8_take_0 rfl rfl ?_
  obtain ⟨g1, hF⟩ := zg hF
  refine ex_get (q := 4) (v := vr 3 (gt h 8 l0 0)) 0 dX8_take_1 rfl fl_X8_46 g1 rfl rfl ?_
  refine ex_iload_n (q := 5) dX8_take_4 rfl rfl ?_
  obtain ⟨g3, hF⟩ := zg hF
  obtain ⟨r2, h2, e2, hF⟩ := zb_some hF
  refine ex_callV (d' := 0) (q := 8) (as := [vi l3]) (st1 := [vr 6 r2]) (r := (some (vr 6 r2))) (h2 := h2) dX8_take_5 rfl (run_X3_firstOnRack e2) mc_X3_firstOnRack mv_X3_firstOnRack ml_X8_210 (by decide) g3 rfl rfl (Nat.le_of_ble_eq_true rfl) rfl ?_
  refine ex_astore (q := 10) (lo' := [some (vr 8 l0), some (vr 1 l1), some (vi l2), some (vi l3), some (vr 6 r2)]) dX8_take_8 rfl (by decide) rfl rfl ?_
  refine ex_aload (q := 12) dX8_take_10 rfl rfl ?_
  refine ex_ifnonnull (q := 15) (tgt := 26) dX8_take_12 rfl (by decide) (fun c4 => ?_) (fun c4 => ?_)
  · have hF := ip c4 hF
    refine ex_aload_n (q := 27) dX8_take_26 rfl rfl ?_
    refine ex_aload_n (q := 28) dX8_take_27 rfl rfl ?_
    refine ex_iload_n (q := 29) dX8_take_28 rfl rfl ?_
    refine ex_aload (q := 31) dX8_take_29 rfl rfl ?_
    refine ex_iconst (q := 32) dX8_take_31 rfl ⟨by decide, by decide⟩ ?_
    obtain ⟨r5, h5, e5, hF⟩ := zb_some hF
    refine ex_callV (d' := 3) (q := 35) (as := [vr 1 l1, vi l2, vr 6 r2, vi 0]) (st1 := []) (r := none) (h2 := h5) dX8_take_32 rfl (run_X8_hire e5) mc_X8_hire mv_X8_hire ml_X8_206 (by decide) g1 rfl rfl (Nat.le_of_ble_eq_true rfl) rfl ?_
    obtain ⟨rfl, rfl⟩ := zr hF
    exact ex_ret none rfl ⟨dX8_take_35, rfl⟩ ⟨rfl, rfl⟩
  · have hF := im c4 hF
    refine ex_aload_n (q := 16) dX8_take_15 rfl rfl ?_
    refine ex_aload_n (q := 17) dX8_take_16 rfl rfl ?_
    refine ex_bipush (q := 19) dX8_take_17 rfl (by decide) ⟨by decide, by decide⟩ ?_
    refine ex_iconst (q := 20) dX8_take_19 rfl ⟨by decide, by decide⟩ ?_
    obtain ⟨r6, h6, e6, hF⟩ := zb_some hF
    refine ex_callV (d' := 2) (q := 23) (as := [vr 1 l1, vi 7, vi (-1)]) (st1 := []) (r := none) (h2 := h6) dX8_take_20 rfl (run_X8_fail e6) mc_X8_fail mv_X8_fail ml_X8_189 (by decide) g1 rfl rfl (Nat.le_of_ble_eq_true rfl) rfl ?_
    refine ex_goto (q := 35) dX8_take_23 (by decide) ?_
    obtain ⟨rfl, rfl⟩ := zr hF
    exact ex_ret none rfl ⟨dX8_take_35, rfl⟩ ⟨rfl, rfl⟩
def F_X8_take (l0 l1 l2 l3 : Int) (h : zH) : zO := F_X8_take_0 l0 l1 l2 l3 h
theorem run_X8_take {l0 l1 l2 l3 : Int} {h : zH} {r : Int} {h' : zH} (hF : F_X8_take l0 l1 l2 l3 h = some (r, h')) : Run 4 yX8_take cX8_take 5 none [vr 8 l0, vr 1 l1, vi l2, vi l3] h none h' := run_of (M := M_X8_take) (by decide) rfl (fun z => by cases z) (Nat.le_of_ble_eq_true rfl) (x_X8_take_0 hF)
abbrev M_X1_in : zM := (RX1, (cX1_in, (2, ((some (.object "HireScopes$Loan")), false))))
def F_X1_in_0 (l0 l1 : Int) (h : zH) : zO := zb (F_X11_within l1 8 h) (fun r1 h1 => if r1 = 0 then (some ((-1), h1)) else (if 0 ≤ l0 then (if 0 ≤ gt h1 1 l0 3 then (if 0 ≤ l1 ∧ l1 < 8 then (some (gt h1 20 (gt h1 1 l0 3) l1, h1)) else none) else none) else none))
set_option maxHeartbeats 1000000 in
theorem x_X1_in_0 {l0 l1 : Int} {h : zH} {r : Int} {h' : zH} (hF : F_X1_in_0 l0 l1 h = some (r, h')) : Ex 1 M_X1_in 0 [some (vr 1 l0), some (vi l1)] [] h (fun r1 h1 => r1 = some (vr 4 r) ∧ h1 = h') := by
  unfold F_X1_in_0 at hF
  refine ex_iload_n (q := 1) dX1_in_0 rfl rfl ?_
  refine ex_bipush (q := 3) dX1_in_1 rfl (by decide) ⟨by decide, by decide⟩ ?_
  obtain ⟨r1, h1, e1, hF⟩ := zb_some hF
  refine ex_callS (d' := 0) (q := 6) (as := [vi l1, vi 8]) (st1 := [vi r1]) (r := (some (vi r1))) (h2 := h1) dX1_in_3 rfl (run_X11_within e1) mc_X11_within ms_X11_within ml_X1_28 (by decide) rfl rfl (Nat.le_of_ble_eq_true rfl) rfl ?_
  refine ex_if_eq (q := 9) (tgt := 18) dX1_in_6 rfl (by decide) (fun c2 => ?_) (fun c2 => ?_)
  · have hF := ip c2 hF
    refine ex_null (q := 19) 4 dX1_in_18 rfl ?_
    obtain ⟨rfl, rfl⟩ := zr hF
    exact ex_ret (some (vr 4 (-1))) rfl ⟨dX1_in_19, _, rfl⟩ ⟨rfl, rfl⟩
  · have hF := im c2 hF
    refine ex_aload_n (q := 10) dX1_in_9 rfl rfl ?_
    obtain ⟨g3, hF⟩ := zg hF
    refine ex_get (q := 13) (v := vr 20 (gt h1 1 l0 3)) 3 dX1_in_10 rfl fl_X1_11 g3 rfl rfl ?_
    refine ex_iload_n (q := 14) dX1_in_13 rfl rfl ?_
    obtain ⟨g4, hF⟩ := zg hF
    obtain ⟨g5, hF⟩ := zg hF
    refine ex_aald (q := 15) 4 dX1_in_14 rfl kd_20 (by decide) g4 g5.1 g5.2 ?_
    refine ex_goto (q := 19) dX1_in_15 (by decide) ?_
    obtain ⟨rfl, rfl⟩ := zr hF
    exact ex_ret (some (vr 4 (gt h1 20 (gt h1 1 l0 3) l1))) rfl ⟨dX1_in_19, _, rfl⟩ ⟨rfl, rfl⟩
def F_X1_in (l0 l1 : Int) (h : zH) : zO := F_X1_in_0 l0 l1 h
theorem run_X1_in {l0 l1 : Int} {h : zH} {r : Int} {h' : zH} (hF : F_X1_in l0 l1 h = some (r, h')) : Run 1 yX1_in cX1_in 2 (some (.object "HireScopes$Loan")) [vr 1 l0, vi l1] h (some (vr 4 r)) h' := run_of (M := M_X1_in) (by decide) rfl (fun z => by cases z) (Nat.le_of_ble_eq_true rfl) (x_X1_in_0 hF)
abbrev M_X8_misuseOf : zM := (RX8, (cX8_misuseOf, (2, ((some .int), false))))
def F_X8_misuseOf_0 (l0 l1 : Int) (h : zH) : zO := if l0 = -1 then (some (3, h)) else (if 0 ≤ l0 then (if gt h 4 l0 2 ≠ 0 then (if l1 = 0 then (some ((-1), h)) else (if gt h 4 l0 4 = -1 then (some ((-1), h)) else (some (2, h)))) else (some (3, h))) else none)
set_option maxHeartbeats 1000000 in
theorem x_X8_misuseOf_0 {l0 l1 : Int} {h : zH} {r : Int} {h' : zH} (hF : F_X8_misuseOf_0 l0 l1 h = some (r, h')) : Ex 0 M_X8_misuseOf 0 [some (vr 4 l0), some (vi l1)] [] h (fun r1 h1 => r1 = some (vi r) ∧ h1 = h') := by
  unfold F_X8_misuseOf_0 at hF
  refine ex_aload_n (q := 1) dX8_misuseOf_0 rfl rfl ?_
  refine ex_ifnull (q := 4) (tgt := 11) dX8_misuseOf_1 rfl (by decide) (fun c1 => ?_) (fun c1 => ?_)
  · have hF := ip c1 hF
    refine ex_iconst (q := 12) dX8_misuseOf_11 rfl ⟨by decide, by decide⟩ ?_
    obtain ⟨rfl, rfl⟩ := zr hF
    exact ex_ret (some (vi 3)) rfl ⟨dX8_misuseOf_12, Or.inl rfl⟩ ⟨rfl, rfl⟩
  · have hF := im c1 hF
    refine ex_aload_n (q := 5) dX8_misuseOf_4 rfl rfl ?_
    obtain ⟨g2, hF⟩ := zg hF
    refine ex_get (q := 8) (v := vi (gt h 4 l0 2)) 2 dX8_misuseOf_5 rfl fl_X8_274 g2 rfl rfl ?_
    refine ex_if_ne (q := 11) (tgt := 13) dX8_misuseOf_8 rfl (by decide) (fun c3 => ?_) (fun c3 => ?_)
    · have hF := ip c3 hF
      refine ex_iload_n (q := 14) dX8_misuseOf_13 rfl rfl ?_
      refine ex_if_eq (q := 17) (tgt := 28) dX8_misuseOf_14 rfl (by decide) (fun c4 => ?_) (fun c4 => ?_)
      · have hF := ip c4 hF
        refine ex_iconst (q := 29) dX8_misuseOf_28 rfl ⟨by decide, by decide⟩ ?_
        obtain ⟨rfl, rfl⟩ := zr hF
        exact ex_ret (some (vi (-1))) rfl ⟨dX8_misuseOf_29, Or.inl rfl⟩ ⟨rfl, rfl⟩
      · have hF := im c4 hF
        refine ex_aload_n (q := 18) dX8_misuseOf_17 rfl rfl ?_
        refine ex_get (q := 21) (v := vr 4 (gt h 4 l0 4)) 4 dX8_misuseOf_18 rfl fl_X8_278 g2 rfl rfl ?_
        refine ex_ifnull (q := 24) (tgt := 28) dX8_misuseOf_21 rfl (by decide) (fun c5 => ?_) (fun c5 => ?_)
        · have hF := ip c5 hF
          refine ex_iconst (q := 29) dX8_misuseOf_28 rfl ⟨by decide, by decide⟩ ?_
          obtain ⟨rfl, rfl⟩ := zr hF
          exact ex_ret (some (vi (-1))) rfl ⟨dX8_misuseOf_29, Or.inl rfl⟩ ⟨rfl, rfl⟩
        · have hF := im c5 hF
          refine ex_iconst (q := 25) dX8_misuseOf_24 rfl ⟨by decide, by decide⟩ ?_
          refine ex_goto (q := 29) dX8_misuseOf_25 (by decide) ?_
          obtain ⟨rfl, rfl⟩ := zr hF
          exact ex_ret (some (vi 2)) rfl ⟨dX8_misuseOf_29, Or.inl rfl⟩ ⟨rfl, rfl⟩
    · have hF := im c3 hF
      refine ex_iconst (q := 12) dX8_misuseOf_11 rfl ⟨by decide, by decide⟩ ?_
      obtain ⟨rfl, rfl⟩ := zr hF
      exact ex_ret (some (vi 3)) rfl ⟨dX8_misuseOf_12, Or.inl rfl⟩ ⟨rfl, rfl⟩
def F_X8_misuseOf (l0 l1 : Int) (h : zH) : zO := F_X8_misuseOf_0 l0 l1 h
theorem run_X8_misuseOf {l0 l1 : Int} {h : zH} {r : Int} {h' : zH} (hF : F_X8_misuseOf l0 l1 h = some (r, h')) : Run 0 yX8_misuseOf cX8_misuseOf 2 (some .int) [vr 4 l0, vi l1] h (some (vi r)) h' := run_of (M := M_X8_misuseOf) (by decide) rfl (fun z => by cases z) (Nat.le_of_ble_eq_true rfl) (x_X8_misuseOf_0 hF)
abbrev M_X8_use : zM := (RX8, (cX8_use, (4, (none, false))))
def F_X8_use_0 (l0 l1 l2 : Int) (h : zH) : zO := zb (F_X8_misuseOf l2 1 h) (fun r1 h1 => if r1 = (-1) then (if 0 ≤ l0 then (if 0 ≤ gt h1 8 l0 0 then (zb (F_X8_partOf l2 h1) (fun r5 h5 => if 0 ≤ gt h1 3 (gt h1 8 l0 0) 7 then (zb (F_X7_meets (gt h1 3 (gt h1 8 l0 0) 7) r5 0 h5) (fun r6 h6 => if r6 = 0 then (some (0, h6)) else (zb (F_X8_partOf l2 h6) (fun r9 h9 => zb (F_X8_fail l0 l1 5 r9 h9) (fun r10 h10 => some (0, h10)))))) else none)) else none) else none) else (zb (F_X8_partOf l2 h1) (fun r11 h11 => if 0 ≤ l0 then (zb (F_X8_fail l0 l1 r1 r11 h11) (fun r12 h12 => some (0, h12))) else none)))
set_option maxHeartbeats 1000000 in
theorem x_X8_use_0 {l0 l1 l2 : Int} {h : zH} {r : Int} {h' : zH} (hF : F_X8_use_0 l0 l1 l2 h = some (r, h')) : Ex 3 M_X8_use 0 [some (vr 8 l0), some (vr 1 l1), some (vr 4 l2), none] [] h (fun r1 h1 => r1 = none ∧ h1 = h') := by
  unfold F_X8_use_0 at hF
  refine ex_aload_n (q := 1) dX8_use_0 rfl rfl ?_
  refine ex_iconst (q := 2) dX8_use_1 rfl ⟨by decide, by decide⟩ ?_
  obtain ⟨r1, h1, e1, hF⟩ := zb_some hF
  refine ex_callS (d' := 0) (q := 5) (as := [vr 4 l2, vi 1]) (st1 := [vi r1]) (r := (some (vi r1))) (h2 := h1) dX8_use_2 rfl (run_X8_misuseOf e1) mc_X8_misuseOf ms_X8_misuseOf ml_X8_242 (by decide) rfl rfl (Nat.le_of_ble_eq_true rfl) rfl ?_
  refine ex_istore_n (q := 6) (lo' := [some (vr 8 l0), some (vr 1 l1), some (vr 4 l2), some (vi r1)]) dX8_use_5 rfl (by decide) rfl rfl ?_
  refine ex_iload_n (q := 7) dX8_use_6 rfl rfl ?_
  refine ex_iconst (q := 8) dX8_use_7 rfl ⟨by decide, by decide⟩ ?_
  refine ex_icmp_eq (q := 11) (tgt := 24) dX8_use_8 rfl (by decide) (fun c2 => ?_) (fun c2 => ?_)
  · have hF := ip c2 hF
    refine ex_aload_n (q := 25) dX8_use_24 rfl rfl ?_
    obtain ⟨g3, hF⟩ := zg hF
    refine ex_get (q := 28) (v := vr 3 (gt h1 8 l0 0)) 0 dX8_use_25 rfl fl_X8_46 g3 rfl rfl ?_
    obtain ⟨g4, hF⟩ := zg hF
    refine ex_get (q := 31) (v := vr 7 (gt h1 3 (gt h1 8 l0 0) 7)) 7 dX8_use_28 rfl fl_X8_250 g4 rfl rfl ?_
    refine ex_aload_n (q := 32) dX8_use_31 rfl rfl ?_
    obtain ⟨r5, h5, e5, hF⟩ := zb_some hF
    refine ex_callS (d' := 0) (q := 35) (as := [vr 4 l2]) (st1 := [vi r5, vr 7 (gt h1 3 (gt h1 8 l0 0) 7)]) (r := (some (vi r5))) (h2 := h5) dX8_use_32 rfl (run_X8_partOf e5) mc_X8_partOf ms_X8_partOf ml_X8_246 (by decide) rfl rfl (Nat.le_of_ble_eq_true rfl) rfl ?_
    refine ex_iconst (q := 36) dX8_use_35 rfl ⟨by decide, by decide⟩ ?_
    obtain ⟨g7, hF⟩ := zg hF
    obtain ⟨r6, h6, e6, hF⟩ := zb_some hF
    refine ex_callV (d' := 0) (q := 39) (as := [vi r5, vi 0]) (st1 := [vi r6]) (r := (some (vi r6))) (h2 := h6) dX8_use_36 rfl (run_X7_meets e6) mc_X7_meets mv_X7_meets ml_X8_254 (by decide) g7 rfl rfl (Nat.le_of_ble_eq_true rfl) rfl ?_
    refine ex_if_eq (q := 42) (tgt := 52) dX8_use_39 rfl (by decide) (fun c8 => ?_) (fun c8 => ?_)
    · have hF := ip c8 hF
      obtain ⟨rfl, rfl⟩ := zr hF
      exact ex_ret none rfl ⟨dX8_use_52, rfl⟩ ⟨rfl, rfl⟩
    · have hF := im c8 hF
      refine ex_aload_n (q := 43) dX8_use_42 rfl rfl ?_
      refine ex_aload_n (q := 44) dX8_use_43 rfl rfl ?_
      refine ex_iconst (q := 45) dX8_use_44 rfl ⟨by decide, by decide⟩ ?_
      refine ex_aload_n (q := 46) dX8_use_45 rfl rfl ?_
      obtain ⟨r9, h9, e9, hF⟩ := zb_some hF
      refine ex_callS (d' := 0) (q := 49) (as := [vr 4 l2]) (st1 := [vi r9, vi 5, vr 1 l1, vr 8 l0]) (r := (some (vi r9))) (h2 := h9) dX8_use_46 rfl (run_X8_partOf e9) mc_X8_partOf ms_X8_partOf ml_X8_246 (by decide) rfl rfl (Nat.le_of_ble_eq_true rfl) rfl ?_
      obtain ⟨r10, h10, e10, hF⟩ := zb_some hF
      refine ex_callV (d' := 2) (q := 52) (as := [vr 1 l1, vi 5, vi r9]) (st1 := []) (r := none) (h2 := h10) dX8_use_49 rfl (run_X8_fail e10) mc_X8_fail mv_X8_fail ml_X8_189 (by decide) g3 rfl rfl (Nat.le_of_ble_eq_true rfl) rfl ?_
      obtain ⟨rfl, rfl⟩ := zr hF
      exact ex_ret none rfl ⟨dX8_use_52, rfl⟩ ⟨rfl, rfl⟩
  · have hF := im c2 hF
    refine ex_aload_n (q := 12) dX8_use_11 rfl rfl ?_
    refine ex_aload_n (q := 13) dX8_use_12 rfl rfl ?_
    refine ex_iload_n (q := 14) dX8_use_13 rfl rfl ?_
    refine ex_aload_n (q := 15) dX8_use_14 rfl rfl ?_
    obtain ⟨r11, h11, e11, hF⟩ := zb_some hF
    refine ex_callS (d' := 0) (q := 18) (as := [vr 4 l2]) (st1 := [vi r11, vi r1, vr 1 l1, vr 8 l0]) (r := (some (vi r11))) (h2 := h11) dX8_use_15 rfl (run_X8_partOf e11) mc_X8_partOf ms_X8_partOf ml_X8_246 (by decide) rfl rfl (Nat.le_of_ble_eq_true rfl) rfl ?_
    obtain ⟨g13, hF⟩ := zg hF
    obtain ⟨r12, h12, e12, hF⟩ := zb_some hF
    refine ex_callV (d' := 2) (q := 21) (as := [vr 1 l1, vi r1, vi r11]) (st1 := []) (r := none) (h2 := h12) dX8_use_18 rfl (run_X8_fail e12) mc_X8_fail mv_X8_fail ml_X8_189 (by decide) g13 rfl rfl (Nat.le_of_ble_eq_true rfl) rfl ?_
    refine ex_goto (q := 52) dX8_use_21 (by decide) ?_
    obtain ⟨rfl, rfl⟩ := zr hF
    exact ex_ret none rfl ⟨dX8_use_52, rfl⟩ ⟨rfl, rfl⟩
def F_X8_use (l0 l1 l2 : Int) (h : zH) : zO := F_X8_use_0 l0 l1 l2 h
theorem run_X8_use {l0 l1 l2 : Int} {h : zH} {r : Int} {h' : zH} (hF : F_X8_use l0 l1 l2 h = some (r, h')) : Run 3 yX8_use cX8_use 4 none [vr 8 l0, vr 1 l1, vr 4 l2] h none h' := run_of (M := M_X8_use) (by decide) rfl (fun z => by cases z) (Nat.le_of_ble_eq_true rfl) (x_X8_use_0 hF)
abbrev M_X8_bringBack : zM := (RX8, (cX8_bringBack, (4, (none, false))))
def F_X8_bringBack_0 (l0 l1 l2 : Int) (h : zH) : zO := zb (F_X8_misuseOf l2 0 h) (fun r1 h1 => if r1 = (-1) then (if 0 ≤ l0 then (zb (F_X8_giveUp l0 l2 0 h1) (fun r3 h3 => if r3 = 0 then (some (0, h3)) else (zb (F_X8_partOf l2 h3) (fun r6 h6 => zb (F_X8_fail l0 l1 6 r6 h6) (fun r7 h7 => some (0, h7)))))) else none) else (zb (F_X8_partOf l2 h1) (fun r8 h8 => if 0 ≤ l0 then (zb (F_X8_fail l0 l1 r1 r8 h8) (fun r9 h9 => some (0, h9))) else none)))
set_option maxHeartbeats 1000000 in
theorem x_X8_bringBack_0 {l0 l1 l2 : Int} {h : zH} {r : Int} {h' : zH} (hF : F_X8_bringBack_0 l0 l1 l2 h = some (r, h')) : Ex 3 M_X8_bringBack 0 [some (vr 8 l0), some (vr 1 l1), some (vr 4 l2), none] [] h (fun r1 h1 => r1 = none ∧ h1 = h') := by
  unfold F_X8_bringBack_0 at hF
  refine ex_aload_n (q := 1) dX8_bringBack_0 rfl rfl ?_
  refine ex_iconst (q := 2) dX8_bringBack_1 rfl ⟨by decide, by decide⟩ ?_
  obtain ⟨r1, h1, e1, hF⟩ := zb_some hF
  refine ex_callS (d' := 0) (q := 5) (as := [vr 4 l2, vi 0]) (st1 := [vi r1]) (r := (some (vi r1))) (h2 := h1) dX8_bringBack_2 rfl (run_X8_misuseOf e1) mc_X8_misuseOf ms_X8_misuseOf ml_X8_242 (by decide) rfl rfl (Nat.le_of_ble_eq_true rfl) rfl ?_
  refine ex_istore_n (q := 6) (lo' := [some (vr 8 l0), some (vr 1 l1), some (vr 4 l2), some (vi r1)]) dX8_bringBack_5 rfl (by decide) rfl rfl ?_
  refine ex_iload_n (q := 7) dX8_bringBack_6 rfl rfl ?_
  refine ex_iconst (q := 8) dX8_bringBack_7 rfl ⟨by decide, by decide⟩ ?_
  refine ex_icmp_eq (q := 11) (tgt := 24) dX8_bringBack_8 rfl (by decide) (fun c2 => ?_) (fun c2 => ?_)
  · have hF := ip c2 hF
    refine ex_aload_n (q := 25) dX8_bringBack_24 rfl rfl ?_
    refine ex_aload_n (q := 26) dX8_bringBack_25 rfl rfl ?_
    refine ex_iconst (q := 27) dX8_bringBack_26 rfl ⟨by decide, by decide⟩ ?_
    obtain ⟨g4, hF⟩ := zg hF
    obtain ⟨r3, h3, e3, hF⟩ := zb_some hF
    refine ex_callV (d' := 2) (q := 30) (as := [vr 4 l2, vi 0]) (st1 := [vi r3]) (r := (some (vi r3))) (h2 := h3) dX8_bringBack_27 rfl (run_X8_giveUp e3) mc_X8_giveUp mv_X8_giveUp ml_X8_259 (by decide) g4 rfl rfl (Nat.le_of_ble_eq_true rfl) rfl ?_
    refine ex_if_eq (q := 33) (tgt := 44) dX8_bringBack_30 rfl (by decide) (fun c5 => ?_) (fun c5 => ?_)
    · have hF := ip c5 hF
      obtain ⟨rfl, rfl⟩ := zr hF
      exact ex_ret none rfl ⟨dX8_bringBack_44, rfl⟩ ⟨rfl, rfl⟩
    · have hF := im c5 hF
      refine ex_aload_n (q := 34) dX8_bringBack_33 rfl rfl ?_
      refine ex_aload_n (q := 35) dX8_bringBack_34 rfl rfl ?_
      refine ex_bipush (q := 37) dX8_bringBack_35 rfl (by decide) ⟨by decide, by decide⟩ ?_
      refine ex_aload_n (q := 38) dX8_bringBack_37 rfl rfl ?_
      obtain ⟨r6, h6, e6, hF⟩ := zb_some hF
      refine ex_callS (d' := 0) (q := 41) (as := [vr 4 l2]) (st1 := [vi r6, vi 6, vr 1 l1, vr 8 l0]) (r := (some (vi r6))) (h2 := h6) dX8_bringBack_38 rfl (run_X8_partOf e6) mc_X8_partOf ms_X8_partOf ml_X8_246 (by decide) rfl rfl (Nat.le_of_ble_eq_true rfl) rfl ?_
      obtain ⟨r7, h7, e7, hF⟩ := zb_some hF
      refine ex_callV (d' := 2) (q := 44) (as := [vr 1 l1, vi 6, vi r6]) (st1 := []) (r := none) (h2 := h7) dX8_bringBack_41 rfl (run_X8_fail e7) mc_X8_fail mv_X8_fail ml_X8_189 (by decide) g4 rfl rfl (Nat.le_of_ble_eq_true rfl) rfl ?_
      obtain ⟨rfl, rfl⟩ := zr hF
      exact ex_ret none rfl ⟨dX8_bringBack_44, rfl⟩ ⟨rfl, rfl⟩
  · have hF := im c2 hF
    refine ex_aload_n (q := 12) dX8_bringBack_11 rfl rfl ?_
    refine ex_aload_n (q := 13) dX8_bringBack_12 rfl rfl ?_
    refine ex_iload_n (q := 14) dX8_bringBack_13 rfl rfl ?_
    refine ex_aload_n (q := 15) dX8_bringBack_14 rfl rfl ?_
    obtain ⟨r8, h8, e8, hF⟩ := zb_some hF
    refine ex_callS (d' := 0) (q := 18) (as := [vr 4 l2]) (st1 := [vi r8, vi r1, vr 1 l1, vr 8 l0]) (r := (some (vi r8))) (h2 := h8) dX8_bringBack_15 rfl (run_X8_partOf e8) mc_X8_partOf ms_X8_partOf ml_X8_246 (by decide) rfl rfl (Nat.le_of_ble_eq_true rfl) rfl ?_
    obtain ⟨g10, hF⟩ := zg hF
    obtain ⟨r9, h9, e9, hF⟩ := zb_some hF
    refine ex_callV (d' := 2) (q := 21) (as := [vr 1 l1, vi r1, vi r8]) (st1 := []) (r := none) (h2 := h9) dX8_bringBack_18 rfl (run_X8_fail e9) mc_X8_fail mv_X8_fail ml_X8_189 (by decide) g10 rfl rfl (Nat.le_of_ble_eq_true rfl) rfl ?_
    refine ex_goto (q := 44) dX8_bringBack_21 (by decide) ?_
    obtain ⟨rfl, rfl⟩ := zr hF
    exact ex_ret none rfl ⟨dX8_bringBack_44, rfl⟩ ⟨rfl, rfl⟩
def F_X8_bringBack (l0 l1 l2 : Int) (h : zH) : zO := F_X8_bringBack_0 l0 l1 l2 h
theorem run_X8_bringBack {l0 l1 l2 : Int} {h : zH} {r : Int} {h' : zH} (hF : F_X8_bringBack l0 l1 l2 h = some (r, h')) : Run 3 yX8_bringBack cX8_bringBack 4 none [vr 8 l0, vr 1 l1, vr 4 l2] h none h' := run_of (M := M_X8_bringBack) (by decide) rfl (fun z => by cases z) (Nat.le_of_ble_eq_true rfl) (x_X8_bringBack_0 hF)
abbrev M_X8_lendOn : zM := (RX8, (cX8_lendOn, (5, (none, false))))
def F_X8_lendOn_0 (l0 l1 l2 l3 : Int) (h : zH) : zO := zb (F_X8_misuseOf l2 1 h) (fun r1 h1 => if r1 = (-1) then (if 0 ≤ l2 then (if 0 ≤ l0 then (zb (F_X8_makeLoan l0 l1 l3 (gt h1 4 l2 0) 2 l2 h1) (fun r4 h4 => some (0, h4))) else none) else none) else (zb (F_X8_partOf l2 h1) (fun r6 h6 => if 0 ≤ l0 then (zb (F_X8_fail l0 l1 r1 r6 h6) (fun r7 h7 => some (0, h7))) else none)))
set_option maxHeartbeats 1000000 in
theorem x_X8_lendOn_0 {l0 l1 l2 l3 : Int} {h : zH} {r : Int} {h' : zH} (hF : F_X8_lendOn_0 l0 l1 l2 l3 h = some (r, h')) : Ex 3 M_X8_lendOn 0 [some (vr 8 l0), some (vr 1 l1), some (vr 4 l2), some (vi l3), none] [] h (fun r1 h1 => r1 = none ∧ h1 = h') := by
  unfold F_X8_lendOn_0 at hF
  refine ex_aload_n (q := 1) dX8_lendOn_0 rfl rfl ?_
  refine ex_iconst (q := 2) dX8_lendOn_1 rfl ⟨by decide, by decide⟩ ?_
  obtain ⟨r1, h1, e1, hF⟩ := zb_some hF
  refine ex_callS (d' := 0) (q := 5) (as := [vr 4 l2, vi 1]) (st1 := [vi r1]) (r := (some (vi r1))) (h2 := h1) dX8_lendOn_2 rfl (run_X8_misuseOf e1) mc_X8_misuseOf ms_X8_misuseOf ml_X8_242 (by decide) rfl rfl (Nat.le_of_ble_eq_true rfl) rfl ?_
  refine ex_istore (q := 7) (lo' := [some (vr 8 l0), some (vr 1 l1), some (vr 4 l2), some (vi l3), some (vi r1)]) dX8_lendOn_5 rfl (by decide) rfl rfl ?_
  refine ex_iload (q := 9) dX8_lendOn_7 rfl rfl ?_
  refine ex_iconst (q := 10) dX8_lendOn_9 rfl ⟨by decide, by decide⟩ ?_
  refine ex_icmp_eq (q := 13) (tgt := 27) dX8_lendOn_10 rfl (by decide) (fun c2 => ?_) (fun c2 => ?_)
  · have hF := ip c2 hF
    refine ex_aload_n (q := 28) dX8_lendOn_27 rfl rfl ?_
    refine ex_aload_n (q := 29) dX8_lendOn_28 rfl rfl ?_
    refine ex_iload_n (q := 30) dX8_lendOn_29 rfl rfl ?_
    refine ex_aload_n (q := 31) dX8_lendOn_30 rfl rfl ?_
    obtain ⟨g3, hF⟩ := zg hF
    refine ex_get (q := 34) (v := vr 6 (gt h1 4 l2 0)) 0 dX8_lendOn_31 rfl fl_X8_263 g3 rfl rfl ?_
    refine ex_iconst (q := 35) dX8_lendOn_34 rfl ⟨by decide, by decide⟩ ?_
    refine ex_aload_n (q := 36) dX8_lendOn_35 rfl rfl ?_
    obtain ⟨g5, hF⟩ := zg hF
    obtain ⟨r4, h4, e4, hF⟩ := zb_some hF
    refine ex_callV (d' := 2) (q := 39) (as := [vr 1 l1, vi l3, vr 6 (gt h1 4 l2 0), vi 2, vr 4 l2]) (st1 := []) (r := none) (h2 := h4) dX8_lendOn_36 rfl (run_X8_makeLoan e4) mc_X8_makeLoan mv_X8_makeLoan ml_X8_217 (by decide) g5 rfl rfl (Nat.le_of_ble_eq_true rfl) rfl ?_
    obtain ⟨rfl, rfl⟩ := zr hF
    exact ex_ret none rfl ⟨dX8_lendOn_39, rfl⟩ ⟨rfl, rfl⟩
  · have hF := im c2 hF
    refine ex_aload_n (q := 14) dX8_lendOn_13 rfl rfl ?_
    refine ex_aload_n (q := 15) dX8_lendOn_14 rfl rfl ?_
    refine ex_iload (q := 17) dX8_lendOn_15 rfl rfl ?_
    refine ex_aload_n (q := 18) dX8_lendOn_17 rfl rfl ?_
    obtain ⟨r6, h6, e6, hF⟩ := zb_some hF
    refine ex_callS (d' := 0) (q := 21) (as := [vr 4 l2]) (st1 := [vi r6, vi r1, vr 1 l1, vr 8 l0]) (r := (some (vi r6))) (h2 := h6) dX8_lendOn_18 rfl (run_X8_partOf e6) mc_X8_partOf ms_X8_partOf ml_X8_246 (by decide) rfl rfl (Nat.le_of_ble_eq_true rfl) rfl ?_
    obtain ⟨g8, hF⟩ := zg hF
    obtain ⟨r7, h7, e7, hF⟩ := zb_some hF
    refine ex_callV (d' := 2) (q := 24) (as := [vr 1 l1, vi r1, vi r6]) (st1 := []) (r := none) (h2 := h7) dX8_lendOn_21 rfl (run_X8_fail e7) mc_X8_fail mv_X8_fail ml_X8_189 (by decide) g8 rfl rfl (Nat.le_of_ble_eq_true rfl) rfl ?_
    refine ex_goto (q := 39) dX8_lendOn_24 (by decide) ?_
    obtain ⟨rfl, rfl⟩ := zr hF
    exact ex_ret none rfl ⟨dX8_lendOn_39, rfl⟩ ⟨rfl, rfl⟩
def F_X8_lendOn (l0 l1 l2 l3 : Int) (h : zH) : zO := F_X8_lendOn_0 l0 l1 l2 l3 h
theorem run_X8_lendOn {l0 l1 l2 l3 : Int} {h : zH} {r : Int} {h' : zH} (hF : F_X8_lendOn l0 l1 l2 l3 h = some (r, h')) : Run 3 yX8_lendOn cX8_lendOn 5 none [vr 8 l0, vr 1 l1, vr 4 l2, vi l3] h none h' := run_of (M := M_X8_lendOn) (by decide) rfl (fun z => by cases z) (Nat.le_of_ble_eq_true rfl) (x_X8_lendOn_0 hF)
abbrev M_X8_passOn : zM := (RX8, (cX8_passOn, (5, (none, false))))
def F_X8_passOn_46 (l0 l1 l2 : Int) (h : zH) : zO := zb (F_X8_partOf l2 h) (fun r1 h1 => if 0 ≤ l0 then (zb (F_X8_fail l0 l1 4 r1 h1) (fun r2 h2 => some (0, h2))) else none)
set_option maxHeartbeats 1000000 in
theorem x_X8_passOn_46 {l0 l1 l2 : Int} {h : zH} {r : Int} {h' : zH} (hF : F_X8_passOn_46 l0 l1 l2 h = some (r, h')) : Ex 3 M_X8_passOn 46 [some (vr 8 l0), some (vr 1 l1), some (vr 4 l2), none, none] [] h (fun r1 h1 => r1 = none ∧ h1 = h') := by
  unfold F_X8_passOn_46 at hF
  refine ex_aload_n (q := 47) dX8_passOn_46 rfl rfl ?_
  refine ex_aload_n (q := 48) dX8_passOn_47 rfl rfl ?_
  refine ex_iconst (q := 49) dX8_passOn_48 rfl ⟨by decide, by decide⟩ ?_
  refine ex_aload_n (q := 50) dX8_passOn_49 rfl rfl ?_
  obtain ⟨r1, h1, e1, hF⟩ := zb_some hF
  refine ex_callS (d' := 0) (q := 53) (as := [vr 4 l2]) (st1 := [vi r1, vi 4, vr 1 l1, vr 8 l0]) (r := (some (vi r1))) (h2 := h1) dX8_passOn_50 rfl (run_X8_partOf e1) mc_X8_partOf ms_X8_partOf ml_X8_246 (by decide) rfl rfl (Nat.le_of_ble_eq_true rfl) rfl ?_
  obtain ⟨g3, hF⟩ := zg hF
  obtain ⟨r2, h2, e2, hF⟩ := zb_some hF
  refine ex_callV (d' := 2) (q := 56) (as := [vr 1 l1, vi 4, vi r1]) (st1 := []) (r := none) (h2 := h2) dX8_passOn_53 rfl (run_X8_fail e2) mc_X8_fail mv_X8_fail ml_X8_189 (by decide) g3 rfl rfl (Nat.le_of_ble_eq_true rfl) rfl ?_
  refine ex_goto (q := 74) dX8_passOn_56 (by decide) ?_
  obtain ⟨rfl, rfl⟩ := zr hF
  exact ex_ret none rfl ⟨dX8_passOn_74, rfl⟩ ⟨rfl, rfl⟩
def F_X8_passOn_0 (l0 l1 l2 l3 : Int) (h : zH) : zO := zb (F_X8_misuseOf l2 0 h) (fun r1 h1 => if r1 = (-1) then (if 0 ≤ l2 then (if gt h1 4 l2 1 = 1 then (F_X8_passOn_46 l0 l1 l2 h1) else (if 0 ≤ l0 then (zb (F_X11_within l3 (gt h1 8 l0 7) h1) (fun r6 h6 => if r6 ≠ 0 then (if 0 ≤ gt h6 8 l0 6 then (if 0 ≤ wI ((gt h6 8 l0 7) - l3) ∧ wI ((gt h6 8 l0 7) - l3) < 91 then (zb (F_X4_moveTo l2 (gt h6 41 (gt h6 8 l0 6) (wI ((gt h6 8 l0 7) - l3))) h6) (fun r10 h10 => some (0, h10))) else none) else none) else (F_X8_passOn_46 l0 l1 l2 h6))) else none)) else none) else (zb (F_X8_partOf l2 h1) (fun r11 h11 => if 0 ≤ l0 then (zb (F_X8_fail l0 l1 r1 r11 h11) (fun r12 h12 => some (0, h12))) else none)))
set_option maxHeartbeats 1000000 in
theorem x_X8_passOn_0 {l0 l1 l2 l3 : Int} {h : zH} {r : Int} {h' : zH} (hF : F_X8_passOn_0 l0 l1 l2 l3 h = some (r, h')) : Ex 3 M_X8_passOn 0 [some (vr 8 l0), some (vr 1 l1), some (vr 4 l2), some (vi l3), none] [] h (fun r1 h1 => r1 = none ∧ h1 = h') := by
  unfold F_X8_passOn_0 at hF
  refine ex_aload_n (q := 1) dX8_passOn_0 rfl rfl ?_
  refine ex_iconst (q := 2) dX8_passOn_1 rfl ⟨by decide, by decide⟩ ?_
  obtain ⟨r1, h1, e1, hF⟩ := zb_some hF
  refine ex_callS (d' := 0) (q := 5) (as := [vr 4 l2, vi 0]) (st1 := [vi r1]) (r := (some (vi r1))) (h2 := h1) dX8_passOn_2 rfl (run_X8_misuseOf e1) mc_X8_misuseOf ms_X8_misuseOf ml_X8_242 (by decide) rfl rfl (Nat.le_of_ble_eq_true rfl) rfl ?_
  refine ex_istore (q := 7) (lo' := [some (vr 8 l0), some (vr 1 l1), some (vr 4 l2), some (vi l3), some (vi r1)]) dX8_passOn_5 rfl (by decide) rfl rfl ?_
  refine ex_iload (q := 9) dX8_passOn_7 rfl rfl ?_
  refine ex_iconst (q := 10) dX8_passOn_9 rfl ⟨by decide, by decide⟩ ?_
  refine ex_icmp_eq (q := 13) (tgt := 27) dX8_passOn_10 rfl (by decide) (fun c2 => ?_) (fun c2 => ?_)
  · have hF := ip c2 hF
    refine ex_aload_n (q := 28) dX8_passOn_27 rfl rfl ?_
    obtain ⟨g3, hF⟩ := zg hF
    refine ex_get (q := 31) (v := vi (gt h1 4 l2 1)) 1 dX8_passOn_28 rfl fl_X8_267 g3 rfl rfl ?_
    refine ex_iconst (q := 32) dX8_passOn_31 rfl ⟨by decide, by decide⟩ ?_
    refine ex_icmp_eq (q := 35) (tgt := 46) dX8_passOn_32 rfl (by decide) (fun c4 => ?_) (fun c4 => ?_)
    · have hF := ip c4 hF
      exact ex_forget (lo' := [some (vr 8 l0), some (vr 1 l1), some (vr 4 l2), none, none]) ⟨Or.inr rfl, Or.inr rfl, Or.inr rfl, Or.inl rfl, Or.inl rfl, trivial⟩ (x_X8_passOn_46 hF)
    · have hF := im c4 hF
      refine ex_iload_n (q := 36) dX8_passOn_35 rfl rfl ?_
      refine ex_aload_n (q := 37) dX8_passOn_36 rfl rfl ?_
      obtain ⟨g5, hF⟩ := zg hF
      refine ex_get (q := 40) (v := vi (gt h1 8 l0 7)) 7 dX8_passOn_37 rfl fl_X8_135 g5 rfl rfl ?_
      obtain ⟨r6, h6, e6, hF⟩ := zb_some hF
      refine ex_callS (d' := 0) (q := 43) (as := [vi l3, vi (gt h1 8 l0 7)]) (st1 := [vi r6]) (r := (some (vi r6))) (h2 := h6) dX8_passOn_40 rfl (run_X11_within e6) mc_X11_within ms_X11_within ml_X8_227 (by decide) rfl rfl (Nat.le_of_ble_eq_true rfl) rfl ?_
      refine ex_if_ne (q := 46) (tgt := 59) dX8_passOn_43 rfl (by decide) (fun c7 => ?_) (fun c7 => ?_)
      · have hF := ip c7 hF
        refine ex_aload_n (q := 60) dX8_passOn_59 rfl rfl ?_
        refine ex_aload_n (q := 61) dX8_passOn_60 rfl rfl ?_
        refine ex_get (q := 64) (v := vr 41 (gt h6 8 l0 6)) 6 dX8_passOn_61 rfl fl_X8_25 g5 rfl rfl ?_
        refine ex_aload_n (q := 65) dX8_passOn_64 rfl rfl ?_
        refine ex_get (q := 68) (v := vi (gt h6 8 l0 7)) 7 dX8_passOn_65 rfl fl_X8_135 g5 rfl rfl ?_
        refine ex_iload_n (q := 69) dX8_passOn_68 rfl rfl ?_
        refine ex_isub (q := 70) dX8_passOn_69 rfl ?_
        obtain ⟨g8, hF⟩ := zg hF
        obtain ⟨g9, hF⟩ := zg hF
        refine ex_aald (q := 71) 9 dX8_passOn_70 rfl kd_41 (by decide) g8 g9.1 g9.2 ?_
        obtain ⟨r10, h10, e10, hF⟩ := zb_some hF
        refine ex_callV (d' := 1) (q := 74) (as := [vr 9 (gt h6 41 (gt h6 8 l0 6) (wI ((gt h6 8 l0 7) - l3)))]) (st1 := []) (r := none) (h2 := h10) dX8_passOn_71 rfl (run_X4_moveTo e10) mc_X4_moveTo mv_X4_moveTo ml_X8_234 (by decide) g3 rfl rfl (Nat.le_of_ble_eq_true rfl) rfl ?_
        obtain ⟨rfl, rfl⟩ := zr hF
        exact ex_ret none rfl ⟨dX8_passOn_74, rfl⟩ ⟨rfl, rfl⟩
      · have hF := im c7 hF
        exact ex_forget (lo' := [some (vr 8 l0), some (vr 1 l1), some (vr 4 l2), none, none]) ⟨Or.inr rfl, Or.inr rfl, Or.inr rfl, Or.inl rfl, Or.inl rfl, trivial⟩ (x_X8_passOn_46 hF)
  · have hF := im c2 hF
    refine ex_aload_n (q := 14) dX8_passOn_13 rfl rfl ?_
    refine ex_aload_n (q := 15) dX8_passOn_14 rfl rfl ?_
    refine ex_iload (q := 17) dX8_passOn_15 rfl rfl ?_
    refine ex_aload_n (q := 18) dX8_passOn_17 rfl rfl ?_
    obtain ⟨r11, h11, e11, hF⟩ := zb_some hF
    refine ex_callS (d' := 0) (q := 21) (as := [vr 4 l2]) (st1 := [vi r11, vi r1, vr 1 l1, vr 8 l0]) (r := (some (vi r11))) (h2 := h11) dX8_passOn_18 rfl (run_X8_partOf e11) mc_X8_partOf ms_X8_partOf ml_X8_246 (by decide) rfl rfl (Nat.le_of_ble_eq_true rfl) rfl ?_
    obtain ⟨g13, hF⟩ := zg hF
    obtain ⟨r12, h12, e12, hF⟩ := zb_some hF
    refine ex_callV (d' := 2) (q := 24) (as := [vr 1 l1, vi r1, vi r11]) (st1 := []) (r := none) (h2 := h12) dX8_passOn_21 rfl (run_X8_fail e12) mc_X8_fail mv_X8_fail ml_X8_189 (by decide) g13 rfl rfl (Nat.le_of_ble_eq_true rfl) rfl ?_
    refine ex_goto (q := 74) dX8_passOn_24 (by decide) ?_
    obtain ⟨rfl, rfl⟩ := zr hF
    exact ex_ret none rfl ⟨dX8_passOn_74, rfl⟩ ⟨rfl, rfl⟩
def F_X8_passOn (l0 l1 l2 l3 : Int) (h : zH) : zO := F_X8_passOn_0 l0 l1 l2 l3 h
theorem run_X8_passOn {l0 l1 l2 l3 : Int} {h : zH} {r : Int} {h' : zH} (hF : F_X8_passOn l0 l1 l2 l3 h = some (r, h')) : Run 3 yX8_passOn cX8_passOn 5 none [vr 8 l0, vr 1 l1, vr 4 l2, vi l3] h none h' := run_of (M := M_X8_passOn) (by decide) rfl (fun z => by cases z) (Nat.le_of_ble_eq_true rfl) (x_X8_passOn_0 hF)
abbrev M_X8_callAct : zM := (RX8, (cX8_callAct, (5, (none, false))))
def F_X8_callAct_43 (l0 l1 : Int) (h : zH) : zO := if 0 ≤ l0 then (zb (F_X8_fail l0 l1 4 (-1) h) (fun r1 h1 => some (0, h1))) else none
set_option maxHeartbeats 1000000 in
theorem x_X8_callAct_43 {l0 l1 : Int} {h : zH} {r : Int} {h' : zH} (hF : F_X8_callAct_43 l0 l1 h = some (r, h')) : Ex 3 M_X8_callAct 43 [some (vr 8 l0), some (vr 1 l1), none, none, none] [] h (fun r1 h1 => r1 = none ∧ h1 = h') := by
  unfold F_X8_callAct_43 at hF
  refine ex_aload_n (q := 44) dX8_callAct_43 rfl rfl ?_
  refine ex_aload_n (q := 45) dX8_callAct_44 rfl rfl ?_
  refine ex_iconst (q := 46) dX8_callAct_45 rfl ⟨by decide, by decide⟩ ?_
  refine ex_iconst (q := 47) dX8_callAct_46 rfl ⟨by decide, by decide⟩ ?_
  obtain ⟨g2, hF⟩ := zg hF
  obtain ⟨r1, h1, e1, hF⟩ := zb_some hF
  refine ex_callV (d' := 2) (q := 50) (as := [vr 1 l1, vi 4, vi (-1)]) (st1 := []) (r := none) (h2 := h1) dX8_callAct_47 rfl (run_X8_fail e1) mc_X8_fail mv_X8_fail ml_X8_189 (by decide) g2 rfl rfl (Nat.le_of_ble_eq_true rfl) rfl ?_
  refine ex_goto (q := 61) dX8_callAct_50 (by decide) ?_
  obtain ⟨rfl, rfl⟩ := zr hF
  exact ex_ret none rfl ⟨dX8_callAct_61, rfl⟩ ⟨rfl, rfl⟩
def F_X8_callAct_0 (l0 l1 l2 l3 : Int) (h : zH) : zO := if 0 ≤ l0 then (zb (F_X11_findScript (gt h 8 l0 1) l2 h) (fun r2 h2 => if gt h2 8 l0 3 < 10 then (if r2 = -1 then (F_X8_callAct_43 l0 l1 h2) else (if 0 ≤ r2 then (zb (F_X10_faultNumber r2 h2) (fun r5 h5 => if r5 = 0 then (zb (F_X8_enter l0 r2 l2 l3 h5) (fun r8 h8 => some (0, h8))) else (F_X8_callAct_43 l0 l1 h5))) else none)) else (zb (F_X8_fail l0 l1 8 (-1) h2) (fun r9 h9 => some (0, h9))))) else none
set_option maxHeartbeats 1000000 in
theorem x_X8_callAct_0 {l0 l1 l2 l3 : Int} {h : zH} {r : Int} {h' : zH} (hF : F_X8_callAct_0 l0 l1 l2 l3 h = some (r, h')) : Ex 3 M_X8_callAct 0 [some (vr 8 l0), some (vr 1 l1), some (vi l2), some (vr 4 l3), none] [] h (fun r1 h1 => r1 = none ∧ h1 = h') := by
  unfold F_X8_callAct_0 at hF
  refine ex_aload_n (q := 1) dX8_callAct_0 rfl rfl ?_
  obtain ⟨g1, hF⟩ := zg hF
  refine ex_get (q := 4) (v := vr 49 (gt h 8 l0 1)) 1 dX8_callAct_1 rfl fl_X8_50 g1 rfl rfl ?_
  refine ex_iload_n (q := 5) dX8_callAct_4 rfl rfl ?_
  obtain ⟨r2, h2, e2, hF⟩ := zb_some hF
  refine ex_callS (d' := 1) (q := 8) (as := [vr 49 (gt h 8 l0 1), vi l2]) (st1 := [vr 10 r2]) (r := (some (vr 10 r2))) (h2 := h2) dX8_callAct_5 rfl (run_X11_findScript e2) mc_X11_findScript ms_X11_findScript ml_X8_85 (by decide) rfl rfl (Nat.le_of_ble_eq_true rfl) rfl ?_
  refine ex_astore (q := 10) (lo' := [some (vr 8 l0), some (vr 1 l1), some (vi l2), some (vr 4 l3), some (vr 10 r2)]) dX8_callAct_8 rfl (by decide) rfl rfl ?_
  refine ex_aload_n (q := 11) dX8_callAct_10 rfl rfl ?_
  refine ex_get (q := 14) (v := vi (gt h2 8 l0 3)) 3 dX8_callAct_11 rfl fl_X8_94 g1 rfl rfl ?_
  refine ex_bipush (q := 16) dX8_callAct_14 rfl (by decide) ⟨by decide, by decide⟩ ?_
  refine ex_icmp_lt (q := 19) (tgt := 30) dX8_callAct_16 rfl (by decide) (fun c3 => ?_) (fun c3 => ?_)
  · have hF := ip c3 hF
    refine ex_aload (q := 32) dX8_callAct_30 rfl rfl ?_
    refine ex_ifnull (q := 35) (tgt := 43) dX8_callAct_32 rfl (by decide) (fun c4 => ?_) (fun c4 => ?_)
    · have hF := ip c4 hF
      exact ex_forget (lo' := [some (vr 8 l0), some (vr 1 l1), none, none, none]) ⟨Or.inr rfl, Or.inr rfl, Or.inl rfl, Or.inl rfl, Or.inl rfl, trivial⟩ (x_X8_callAct_43 hF)
    · have hF := im c4 hF
      refine ex_aload (q := 37) dX8_callAct_35 rfl rfl ?_
      obtain ⟨g6, hF⟩ := zg hF
      obtain ⟨r5, h5, e5, hF⟩ := zb_some hF
      refine ex_callV (d' := 0) (q := 40) (as := []) (st1 := [vi r5]) (r := (some (vi r5))) (h2 := h5) dX8_callAct_37 rfl (run_X10_faultNumber e5) mc_X10_faultNumber mv_X10_faultNumber ml_X8_270 (by decide) g6 rfl rfl (Nat.le_of_ble_eq_true rfl) rfl ?_
      refine ex_if_eq (q := 43) (tgt := 53) dX8_callAct_40 rfl (by decide) (fun c7 => ?_) (fun c7 => ?_)
      · have hF := ip c7 hF
        refine ex_aload_n (q := 54) dX8_callAct_53 rfl rfl ?_
        refine ex_aload (q := 56) dX8_callAct_54 rfl rfl ?_
        refine ex_iload_n (q := 57) dX8_callAct_56 rfl rfl ?_
        refine ex_aload_n (q := 58) dX8_callAct_57 rfl rfl ?_
        obtain ⟨r8, h8, e8, hF⟩ := zb_some hF
        refine ex_callV (d' := 2) (q := 61) (as := [vr 10 r2, vi l2, vr 4 l3]) (st1 := []) (r := none) (h2 := h8) dX8_callAct_58 rfl (run_X8_enter e8) mc_X8_enter mv_X8_enter ml_X8_89 (by decide) g1 rfl rfl (Nat.le_of_ble_eq_true rfl) rfl ?_
        obtain ⟨rfl, rfl⟩ := zr hF
        exact ex_ret none rfl ⟨dX8_callAct_61, rfl⟩ ⟨rfl, rfl⟩
      · have hF := im c7 hF
        exact ex_forget (lo' := [some (vr 8 l0), some (vr 1 l1), none, none, none]) ⟨Or.inr rfl, Or.inr rfl, Or.inl rfl, Or.inl rfl, Or.inl rfl, trivial⟩ (x_X8_callAct_43 hF)
  · have hF := im c3 hF
    refine ex_aload_n (q := 20) dX8_callAct_19 rfl rfl ?_
    refine ex_aload_n (q := 21) dX8_callAct_20 rfl rfl ?_
    refine ex_bipush (q := 23) dX8_callAct_21 rfl (by decide) ⟨by decide, by decide⟩ ?_
    refine ex_iconst (q := 24) dX8_callAct_23 rfl ⟨by decide, by decide⟩ ?_
    obtain ⟨r9, h9, e9, hF⟩ := zb_some hF
    refine ex_callV (d' := 2) (q := 27) (as := [vr 1 l1, vi 8, vi (-1)]) (st1 := []) (r := none) (h2 := h9) dX8_callAct_24 rfl (run_X8_fail e9) mc_X8_fail mv_X8_fail ml_X8_189 (by decide) g1 rfl rfl (Nat.le_of_ble_eq_true rfl) rfl ?_
    refine ex_goto (q := 61) dX8_callAct_27 (by decide) ?_
    obtain ⟨rfl, rfl⟩ := zr hF
    exact ex_ret none rfl ⟨dX8_callAct_61, rfl⟩ ⟨rfl, rfl⟩
def F_X8_callAct (l0 l1 l2 l3 : Int) (h : zH) : zO := F_X8_callAct_0 l0 l1 l2 l3 h
theorem run_X8_callAct {l0 l1 l2 l3 : Int} {h : zH} {r : Int} {h' : zH} (hF : F_X8_callAct l0 l1 l2 l3 h = some (r, h')) : Run 3 yX8_callAct cX8_callAct 5 none [vr 8 l0, vr 1 l1, vi l2, vr 4 l3] h none h' := run_of (M := M_X8_callAct) (by decide) rfl (fun z => by cases z) (Nat.le_of_ble_eq_true rfl) (x_X8_callAct_0 hF)
abbrev M_X8_beginBlock : zM := (RX8, (cX8_beginBlock, (4, (none, false))))
def F_X8_beginBlock_68 (l1 : Int) (h : zH) : zO := if 0 ≤ l1 then (some (0, (pt h 1 l1 2 (wI ((gt h 1 l1 2) + 1))))) else none
set_option maxHeartbeats 1000000 in
theorem x_X8_beginBlock_68 {l1 : Int} {h : zH} {r : Int} {h' : zH} (hF : F_X8_beginBlock_68 l1 h = some (r, h')) : Ex 2 M_X8_beginBlock 68 [none, some (vr 1 l1), none, none] [] h (fun r1 h1 => r1 = none ∧ h1 = h') := by
  unfold F_X8_beginBlock_68 at hF
  refine ex_aload_n (q := 69) dX8_beginBlock_68 rfl rfl ?_
  refine ex_dup (q := 70) dX8_beginBlock_69 rfl (fun _ z => by cases z) ?_
  obtain ⟨g1, hF⟩ := zg hF
  refine ex_get (q := 73) (v := vi (gt h 1 l1 2)) 2 dX8_beginBlock_70 rfl fl_X8_104 g1 rfl rfl ?_
  refine ex_iconst (q := 74) dX8_beginBlock_73 rfl ⟨by decide, by decide⟩ ?_
  refine ex_iadd (q := 75) dX8_beginBlock_74 rfl ?_
  refine ex_put (q := 78) 2 dX8_beginBlock_75 rfl fl_X8_104 (by decide) g1 rfl rfl (fun z => by cases z) ?_
  obtain ⟨rfl, rfl⟩ := zr hF
  exact ex_ret none rfl ⟨dX8_beginBlock_78, rfl⟩ ⟨rfl, rfl⟩
def F_X8_beginBlock_28 (l0 l1 l2 l3 : Int) (h : zH) : zO := if 0 ≤ l1 then (if l2 ≠ 11 then (if 0 ≤ l0 then (zb (F_X8_push l0 l2 (gt h 1 l1 2) 0 h) (fun r3 h3 => if l2 ≠ 12 then (F_X8_beginBlock_68 l1 h3) else (zb (F_X8_openScope l0 (gt h3 1 l1 1) (gt h3 1 l1 2) h3) (fun r6 h6 => F_X8_beginBlock_68 l1 h6)))) else none) else (if 0 ≤ l0 then (zb (F_X8_push l0 l2 (gt h 1 l1 2) (wI (l3 - 1)) h) (fun r7 h7 => if l2 ≠ 12 then (F_X8_beginBlock_68 l1 h7) else (zb (F_X8_openScope l0 (gt h7 1 l1 1) (gt h7 1 l1 2) h7) (fun r10 h10 => F_X8_beginBlock_68 l1 h10)))) else none)) else none
set_option maxHeartbeats 1000000 in
theorem x_X8_beginBlock_28 {l0 l1 l2 l3 : Int} {h : zH} {r : Int} {h' : zH} (hF : F_X8_beginBlock_28 l0 l1 l2 l3 h = some (r, h')) : Ex 2 M_X8_beginBlock 28 [some (vr 8 l0), some (vr 1 l1), some (vi l2), some (vi l3)] [] h (fun r1 h1 => r1 = none ∧ h1 = h') := by
  unfold F_X8_beginBlock_28 at hF
  refine ex_aload_n (q := 29) dX8_beginBlock_28 rfl rfl ?_
  refine ex_iload_n (q := 30) dX8_beginBlock_29 rfl rfl ?_
  refine ex_aload_n (q := 31) dX8_beginBlock_30 rfl rfl ?_
  obtain ⟨g1, hF⟩ := zg hF
  refine ex_get (q := 34) (v := vi (gt h 1 l1 2)) 2 dX8_beginBlock_31 rfl fl_X8_104 g1 rfl rfl ?_
  refine ex_iload_n (q := 35) dX8_beginBlock_34 rfl rfl ?_
  refine ex_bipush (q := 37) dX8_beginBlock_35 rfl (by decide) ⟨by decide, by decide⟩ ?_
  refine ex_icmp_ne (q := 40) (tgt := 46) dX8_beginBlock_37 rfl (by decide) (fun c2 => ?_) (fun c2 => ?_)
  · have hF := ip c2 hF
    refine ex_iconst (q := 47) dX8_beginBlock_46 rfl ⟨by decide, by decide⟩ ?_
    obtain ⟨g4, hF⟩ := zg hF
    obtain ⟨r3, h3, e3, hF⟩ := zb_some hF
    refine ex_callV (d' := 1) (q := 50) (as := [vi l2, vi (gt h 1 l1 2), vi 0]) (st1 := []) (r := none) (h2 := h3) dX8_beginBlock_47 rfl (run_X8_push e3) mc_X8_push mv_X8_push ml_X8_141 (by decide) g4 rfl rfl (Nat.le_of_ble_eq_true rfl) rfl ?_
    refine ex_iload_n (q := 51) dX8_beginBlock_50 rfl rfl ?_
    refine ex_bipush (q := 53) dX8_beginBlock_51 rfl (by decide) ⟨by decide, by decide⟩ ?_
    refine ex_icmp_ne (q := 56) (tgt := 68) dX8_beginBlock_53 rfl (by decide) (fun c5 => ?_) (fun c5 => ?_)
    · have hF := ip c5 hF
      exact ex_forget (lo' := [none, some (vr 1 l1), none, none]) ⟨Or.inl rfl, Or.inr rfl, Or.inl rfl, Or.inl rfl, trivial⟩ (x_X8_beginBlock_68 hF)
    · have hF := im c5 hF
      refine ex_aload_n (q := 57) dX8_beginBlock_56 rfl rfl ?_
      refine ex_aload_n (q := 58) dX8_beginBlock_57 rfl rfl ?_
      refine ex_get (q := 61) (v := vi (gt h3 1 l1 1)) 1 dX8_beginBlock_58 rfl fl_X8_221 g1 rfl rfl ?_
      refine ex_aload_n (q := 62) dX8_beginBlock_61 rfl rfl ?_
      refine ex_get (q := 65) (v := vi (gt h3 1 l1 2)) 2 dX8_beginBlock_62 rfl fl_X8_104 g1 rfl rfl ?_
      obtain ⟨r6, h6, e6, hF⟩ := zb_some hF
      refine ex_callV (d' := 1) (q := 68) (as := [vi (gt h3 1 l1 1), vi (gt h3 1 l1 2)]) (st1 := []) (r := none) (h2 := h6) dX8_beginBlock_65 rfl (run_X8_openScope e6) mc_X8_openScope mv_X8_openScope ml_X8_145 (by decide) g4 rfl rfl (Nat.le_of_ble_eq_true rfl) rfl ?_
      exact ex_forget (lo' := [none, some (vr 1 l1), none, none]) ⟨Or.inl rfl, Or.inr rfl, Or.inl rfl, Or.inl rfl, trivial⟩ (x_X8_beginBlock_68 hF)
  · have hF := im c2 hF
    refine ex_iload_n (q := 41) dX8_beginBlock_40 rfl rfl ?_
    refine ex_iconst (q := 42) dX8_beginBlock_41 rfl ⟨by decide, by decide⟩ ?_
    refine ex_isub (q := 43) dX8_beginBlock_42 rfl ?_
    refine ex_goto (q := 47) dX8_beginBlock_43 (by decide) ?_
    obtain ⟨g8, hF⟩ := zg hF
    obtain ⟨r7, h7, e7, hF⟩ := zb_some hF
    refine ex_callV (d' := 1) (q := 50) (as := [vi l2, vi (gt h 1 l1 2), vi (wI (l3 - 1))]) (st1 := []) (r := none) (h2 := h7) dX8_beginBlock_47 rfl (run_X8_push e7) mc_X8_push mv_X8_push ml_X8_141 (by decide) g8 rfl rfl (Nat.le_of_ble_eq_true rfl) rfl ?_
    refine ex_iload_n (q := 51) dX8_beginBlock_50 rfl rfl ?_
    refine ex_bipush (q := 53) dX8_beginBlock_51 rfl (by decide) ⟨by decide, by decide⟩ ?_
    refine ex_icmp_ne (q := 56) (tgt := 68) dX8_beginBlock_53 rfl (by decide) (fun c9 => ?_) (fun c9 => ?_)
    · have hF := ip c9 hF
      exact ex_forget (lo' := [none, some (vr 1 l1), none, none]) ⟨Or.inl rfl, Or.inr rfl, Or.inl rfl, Or.inl rfl, trivial⟩ (x_X8_beginBlock_68 hF)
    · have hF := im c9 hF
      refine ex_aload_n (q := 57) dX8_beginBlock_56 rfl rfl ?_
      refine ex_aload_n (q := 58) dX8_beginBlock_57 rfl rfl ?_
      refine ex_get (q := 61) (v := vi (gt h7 1 l1 1)) 1 dX8_beginBlock_58 rfl fl_X8_221 g1 rfl rfl ?_
      refine ex_aload_n (q := 62) dX8_beginBlock_61 rfl rfl ?_
      refine ex_get (q := 65) (v := vi (gt h7 1 l1 2)) 2 dX8_beginBlock_62 rfl fl_X8_104 g1 rfl rfl ?_
      obtain ⟨r10, h10, e10, hF⟩ := zb_some hF
      refine ex_callV (d' := 1) (q := 68) (as := [vi (gt h7 1 l1 1), vi (gt h7 1 l1 2)]) (st1 := []) (r := none) (h2 := h10) dX8_beginBlock_65 rfl (run_X8_openScope e10) mc_X8_openScope mv_X8_openScope ml_X8_145 (by decide) g8 rfl rfl (Nat.le_of_ble_eq_true rfl) rfl ?_
      exact ex_forget (lo' := [none, some (vr 1 l1), none, none]) ⟨Or.inl rfl, Or.inr rfl, Or.inl rfl, Or.inl rfl, trivial⟩ (x_X8_beginBlock_68 hF)
def F_X8_beginBlock_0 (l0 l1 l2 l3 : Int) (h : zH) : zO := if l2 ≠ 11 then (F_X8_beginBlock_28 l0 l1 l2 l3 h) else (if l3 ≠ 0 then (F_X8_beginBlock_28 l0 l1 l2 l3 h) else (if 0 ≤ l1 then (if 0 ≤ gt h 1 l1 0 then (zb (F_X10_nextOf (gt h 1 l1 0) (gt h 1 l1 2) h) (fun r4 h4 => some (0, (pt h4 1 l1 2 (wI (r4 + 1)))))) else none) else none))
set_option maxHeartbeats 1000000 in
theorem x_X8_beginBlock_0 {l0 l1 l2 l3 : Int} {h : zH} {r : Int} {h' : zH} (hF : F_X8_beginBlock_0 l0 l1 l2 l3 h = some (r, h')) : Ex 2 M_X8_beginBlock 0 [some (vr 8 l0), some (vr 1 l1), some (vi l2), some (vi l3)] [] h (fun r1 h1 => r1 = none ∧ h1 = h') := by
  unfold F_X8_beginBlock_0 at hF
  refine ex_iload_n (q := 1) dX8_beginBlock_0 rfl rfl ?_
  refine ex_bipush (q := 3) dX8_beginBlock_1 rfl (by decide) ⟨by decide, by decide⟩ ?_
  refine ex_icmp_ne (q := 6) (tgt := 28) dX8_beginBlock_3 rfl (by decide) (fun c1 => ?_) (fun c1 => ?_)
  · have hF := ip c1 hF
    exact ex_forget (lo' := [some (vr 8 l0), some (vr 1 l1), some (vi l2), some (vi l3)]) ⟨Or.inr rfl, Or.inr rfl, Or.inr rfl, Or.inr rfl, trivial⟩ (x_X8_beginBlock_28 hF)
  · have hF := im c1 hF
    refine ex_iload_n (q := 7) dX8_beginBlock_6 rfl rfl ?_
    refine ex_if_ne (q := 10) (tgt := 28) dX8_beginBlock_7 rfl (by decide) (fun c2 => ?_) (fun c2 => ?_)
    · have hF := ip c2 hF
      exact ex_forget (lo' := [some (vr 8 l0), some (vr 1 l1), some (vi l2), some (vi l3)]) ⟨Or.inr rfl, Or.inr rfl, Or.inr rfl, Or.inr rfl, trivial⟩ (x_X8_beginBlock_28 hF)
    · have hF := im c2 hF
      refine ex_aload_n (q := 11) dX8_beginBlock_10 rfl rfl ?_
      refine ex_aload_n (q := 12) dX8_beginBlock_11 rfl rfl ?_
      obtain ⟨g3, hF⟩ := zg hF
      refine ex_get (q := 15) (v := vr 10 (gt h 1 l1 0)) 0 dX8_beginBlock_12 rfl fl_X8_100 g3 rfl rfl ?_
      refine ex_aload_n (q := 16) dX8_beginBlock_15 rfl rfl ?_
      refine ex_get (q := 19) (v := vi (gt h 1 l1 2)) 2 dX8_beginBlock_16 rfl fl_X8_104 g3 rfl rfl ?_
      obtain ⟨g5, hF⟩ := zg hF
      obtain ⟨r4, h4, e4, hF⟩ := zb_some hF
      refine ex_callV (d' := 1) (q := 22) (as := [vi (gt h 1 l1 2)]) (st1 := [vi r4, vr 1 l1]) (r := (some (vi r4))) (h2 := h4) dX8_beginBlock_19 rfl (run_X10_nextOf e4) mc_X10_nextOf mv_X10_nextOf ml_X8_294 (by decide) g5 rfl rfl (Nat.le_of_ble_eq_true rfl) rfl ?_
      refine ex_iconst (q := 23) dX8_beginBlock_22 rfl ⟨by decide, by decide⟩ ?_
      refine ex_iadd (q := 24) dX8_beginBlock_23 rfl ?_
      refine ex_put (q := 27) 2 dX8_beginBlock_24 rfl fl_X8_104 (by decide) g3 rfl rfl (fun z => by cases z) ?_
      obtain ⟨rfl, rfl⟩ := zr hF
      exact ex_ret none rfl ⟨dX8_beginBlock_27, rfl⟩ ⟨rfl, rfl⟩
def F_X8_beginBlock (l0 l1 l2 l3 : Int) (h : zH) : zO := F_X8_beginBlock_0 l0 l1 l2 l3 h
theorem run_X8_beginBlock {l0 l1 l2 l3 : Int} {h : zH} {r : Int} {h' : zH} (hF : F_X8_beginBlock l0 l1 l2 l3 h = some (r, h')) : Run 2 yX8_beginBlock cX8_beginBlock 4 none [vr 8 l0, vr 1 l1, vi l2, vi l3] h none h' := run_of (M := M_X8_beginBlock) (by decide) rfl (fun z => by cases z) (Nat.le_of_ble_eq_true rfl) (x_X8_beginBlock_0 hF)
abbrev M_X8_doLine : zM := (RX8, (cX8_doLine, (5, (none, false))))
def F_X8_doLine_223 (l0 l1 l2 : Int) (h : zH) : zO := if 0 ≤ l0 then (if gt h 8 l0 12 ≠ 0 then (some (0, h)) else (if 6 < l2 then (some (0, h)) else (if 0 ≤ l1 then (some (0, (pt h 1 l1 2 (wI ((gt h 1 l1 2) + 1))))) else none))) else none
set_option maxHeartbeats 1000000 in
theorem x_X8_doLine_223 {l0 l1 l2 : Int} {h : zH} {r : Int} {h' : zH} (hF : F_X8_doLine_223 l0 l1 l2 h = some (r, h')) : Ex 5 M_X8_doLine 223 [some (vr 8 l0), some (vr 1 l1), some (vi l2), none, none] [] h (fun r1 h1 => r1 = none ∧ h1 = h') := by
  unfold F_X8_doLine_223 at hF
  refine ex_aload_n (q := 224) dX8_doLine_223 rfl rfl ?_
  obtain ⟨g1, hF⟩ := zg hF
  refine ex_get (q := 227) (v := vi (gt h 8 l0 12)) 12 dX8_doLine_224 rfl fl_X8_97 g1 rfl rfl ?_
  refine ex_if_ne (q := 230) (tgt := 246) dX8_doLine_227 rfl (by decide) (fun c2 => ?_) (fun c2 => ?_)
  · have hF := ip c2 hF
    obtain ⟨rfl, rfl⟩ := zr hF
    exact ex_ret none rfl ⟨dX8_doLine_246, rfl⟩ ⟨rfl, rfl⟩
  · have hF := im c2 hF
    refine ex_iload_n (q := 231) dX8_doLine_230 rfl rfl ?_
    refine ex_bipush (q := 233) dX8_doLine_231 rfl (by decide) ⟨by decide, by decide⟩ ?_
    refine ex_icmp_gt (q := 236) (tgt := 246) dX8_doLine_233 rfl (by decide) (fun c3 => ?_) (fun c3 => ?_)
    · have hF := ip c3 hF
      obtain ⟨rfl, rfl⟩ := zr hF
      exact ex_ret none rfl ⟨dX8_doLine_246, rfl⟩ ⟨rfl, rfl⟩
    · have hF := im c3 hF
      refine ex_aload_n (q := 237) dX8_doLine_236 rfl rfl ?_
      refine ex_dup (q := 238) dX8_doLine_237 rfl (fun _ z => by cases z) ?_
      obtain ⟨g4, hF⟩ := zg hF
      refine ex_get (q := 241) (v := vi (gt h 1 l1 2)) 2 dX8_doLine_238 rfl fl_X8_104 g4 rfl rfl ?_
      refine ex_iconst (q := 242) dX8_doLine_241 rfl ⟨by decide, by decide⟩ ?_
      refine ex_iadd (q := 243) dX8_doLine_242 rfl ?_
      refine ex_put (q := 246) 2 dX8_doLine_243 rfl fl_X8_104 (by decide) g4 rfl rfl (fun z => by cases z) ?_
      obtain ⟨rfl, rfl⟩ := zr hF
      exact ex_ret none rfl ⟨dX8_doLine_246, rfl⟩ ⟨rfl, rfl⟩
def F_X8_doLine_0 (l0 l1 l2 : Int) (h : zH) : zO := if 0 ≤ l1 then (if 0 ≤ gt h 1 l1 0 then (zb (F_X10_aAt (gt h 1 l1 0) (gt h 1 l1 2) h) (fun r2 h2 => if 0 ≤ gt h2 1 l1 0 then (zb (F_X10_bAt (gt h2 1 l1 0) (gt h2 1 l1 2) h2) (fun r4 h4 => if l2 = 0 then (if 0 ≤ l0 then (zb (F_X8_borrow l0 l1 r2 r4 0 h4) (fun r7 h7 => F_X8_doLine_223 l0 l1 l2 h7)) else none) else (if l2 = 1 then (if 0 ≤ l0 then (zb (F_X8_take l0 l1 r2 r4 h4) (fun r10 h10 => F_X8_doLine_223 l0 l1 l2 h10)) else none) else (if l2 = 2 then (if 0 ≤ l0 then (zb (F_X8_borrow l0 l1 r2 r4 1 h4) (fun r13 h13 => F_X8_doLine_223 l0 l1 l2 h13)) else none) else (if l2 = 3 then (zb (F_X1_in l1 r2 h4) (fun r16 h16 => if 0 ≤ l0 then (zb (F_X8_use l0 l1 r16 h16) (fun r17 h17 => F_X8_doLine_223 l0 l1 l2 h17)) else none)) else (if l2 = 4 then (zb (F_X1_in l1 r2 h4) (fun r20 h20 => if 0 ≤ l0 then (zb (F_X8_bringBack l0 l1 r20 h20) (fun r21 h21 => F_X8_doLine_223 l0 l1 l2 h21)) else none)) else (if l2 = 5 then (zb (F_X1_in l1 r2 h4) (fun r24 h24 => if 0 ≤ l0 then (zb (F_X8_lendOn l0 l1 r24 r4 h24) (fun r25 h25 => F_X8_doLine_223 l0 l1 l2 h25)) else none)) else (if l2 = 6 then (zb (F_X1_in l1 r2 h4) (fun r28 h28 => if 0 ≤ l0 then (zb (F_X8_passOn l0 l1 r28 r4 h28) (fun r29 h29 => F_X8_doLine_223 l0 l1 l2 h29)) else none)) else (if l2 = 7 then (zb (F_X1_in l1 r4 h4) (fun r32 h32 => if 0 ≤ l0 then (zb (F_X8_callAct l0 l1 r2 r32 h32) (fun r33 h33 => F_X8_doLine_223 l0 l1 l2 h33)) else none)) else (if l2 = 8 then (if 0 ≤ l0 then (zb (F_X8_fail l0 l1 r2 (-1) h4) (fun r36 h36 => F_X8_doLine_223 l0 l1 l2 h36)) else none) else (if l2 = 9 then (if 0 ≤ l0 then (F_X8_doLine_223 l0 l1 l2 (pt h4 8 l0 12 1)) else none) else (if l2 = 10 then (if 0 ≤ l0 then (F_X8_doLine_223 l0 l1 l2 (pt h4 8 l0 12 2)) else none) else (if 0 ≤ l0 then (zb (F_X8_beginBlock l0 l1 l2 r2 h4) (fun r42 h42 => F_X8_doLine_223 l0 l1 l2 h42)) else none))))))))))))) else none)) else none) else none
set_option maxHeartbeats 1000000 in
theorem x_X8_doLine_0 {l0 l1 l2 : Int} {h : zH} {r : Int} {h' : zH} (hF : F_X8_doLine_0 l0 l1 l2 h = some (r, h')) : Ex 5 M_X8_doLine 0 [some (vr 8 l0), some (vr 1 l1), some (vi l2), none, none] [] h (fun r1 h1 => r1 = none ∧ h1 = h') := by
  unfold F_X8_doLine_0 at hF
  refine ex_aload_n (q := 1) dX8_doLine_0 rfl rfl ?_
  obtain ⟨g1, hF⟩ := zg hF
  refine ex_get (q := 4) (v := vr 10 (gt h 1 l1 0)) 0 dX8_doLine_1 rfl fl_X8_100 g1 rfl rfl ?_
  refine ex_aload_n (q := 5) dX8_doLine_4 rfl rfl ?_
  refine ex_get (q := 8) (v := vi (gt h 1 l1 2)) 2 dX8_doLine_5 rfl fl_X8_104 g1 rfl rfl ?_
  obtain ⟨g3, hF⟩ := zg hF
  obtain ⟨r2, h2, e2, hF⟩ := zb_some hF
  refine ex_callV (d' := 1) (q := 11) (as := [vi (gt h 1 l1 2)]) (st1 := [vi r2]) (r := (some (vi r2))) (h2 := h2) dX8_doLine_8 rfl (run_X10_aAt e2) mc_X10_aAt mv_X10_aAt ml_X8_153 (by decide) g3 rfl rfl (Nat.le_of_ble_eq_true rfl) rfl ?_
  refine ex_istore_n (q := 12) (lo' := [some (vr 8 l0), some (vr 1 l1), some (vi l2), some (vi r2), none]) dX8_doLine_11 rfl (by decide) rfl rfl ?_
  refine ex_aload_n (q := 13) dX8_doLine_12 rfl rfl ?_
  refine ex_get (q := 16) (v := vr 10 (gt h2 1 l1 0)) 0 dX8_doLine_13 rfl fl_X8_100 g1 rfl rfl ?_
  refine ex_aload_n (q := 17) dX8_doLine_16 rfl rfl ?_
  refine ex_get (q := 20) (v := vi (gt h2 1 l1 2)) 2 dX8_doLine_17 rfl fl_X8_104 g1 rfl rfl ?_
  obtain ⟨g5, hF⟩ := zg hF
  obtain ⟨r4, h4, e4, hF⟩ := zb_some hF
  refine ex_callV (d' := 1) (q := 23) (as := [vi (gt h2 1 l1 2)]) (st1 := [vi r4]) (r := (some (vi r4))) (h2 := h4) dX8_doLine_20 rfl (run_X10_bAt e4) mc_X10_bAt mv_X10_bAt ml_X8_156 (by decide) g5 rfl rfl (Nat.le_of_ble_eq_true rfl) rfl ?_
  refine ex_istore (q := 25) (lo' := [some (vr 8 l0), some (vr 1 l1), some (vi l2), some (vi r2), some (vi r4)]) dX8_doLine_23 rfl (by decide) rfl rfl ?_
  refine ex_iload_n (q := 26) dX8_doLine_25 rfl rfl ?_
  by_cases c6 : l2 = 0
  · have hF := ip c6 hF
    refine ex_tsw 0 (tgt := 84) dX8_doLine_26 c6 (by decide) (by decide) rfl (by decide) ?_
    refine ex_aload_n (q := 85) dX8_doLine_84 rfl rfl ?_
    refine ex_aload_n (q := 86) dX8_doLine_85 rfl rfl ?_
    refine ex_iload_n (q := 87) dX8_doLine_86 rfl rfl ?_
    refine ex_iload (q := 89) dX8_doLine_87 rfl rfl ?_
    refine ex_iconst (q := 90) dX8_doLine_89 rfl ⟨by decide, by decide⟩ ?_
    obtain ⟨g8, hF⟩ := zg hF
    obtain ⟨r7, h7, e7, hF⟩ := zb_some hF
    refine ex_callV (d' := 4) (q := 93) (as := [vr 1 l1, vi r2, vi r4, vi 0]) (st1 := []) (r := none) (h2 := h7) dX8_doLine_90 rfl (run_X8_borrow e7) mc_X8_borrow mv_X8_borrow ml_X8_159 (by decide) g8 rfl rfl (Nat.le_of_ble_eq_true rfl) rfl ?_
    refine ex_goto (q := 223) dX8_doLine_93 (by decide) ?_
    exact ex_forget (lo' := [some (vr 8 l0), some (vr 1 l1), some (vi l2), none, none]) ⟨Or.inr rfl, Or.inr rfl, Or.inr rfl, Or.inl rfl, Or.inl rfl, trivial⟩ (x_X8_doLine_223 hF)
  · have hF := im c6 hF
    by_cases c9 : l2 = 1
    · have hF := ip c9 hF
      refine ex_tsw 1 (tgt := 96) dX8_doLine_26 c9 (by decide) (by decide) rfl (by decide) ?_
      refine ex_aload_n (q := 97) dX8_doLine_96 rfl rfl ?_
      refine ex_aload_n (q := 98) dX8_doLine_97 rfl rfl ?_
      refine ex_iload_n (q := 99) dX8_doLine_98 rfl rfl ?_
      refine ex_iload (q := 101) dX8_doLine_99 rfl rfl ?_
      obtain ⟨g11, hF⟩ := zg hF
      obtain ⟨r10, h10, e10, hF⟩ := zb_some hF
      refine ex_callV (d' := 4) (q := 104) (as := [vr 1 l1, vi r2, vi r4]) (st1 := []) (r := none) (h2 := h10) dX8_doLine_101 rfl (run_X8_take e10) mc_X8_take mv_X8_take ml_X8_163 (by decide) g11 rfl rfl (Nat.le_of_ble_eq_true rfl) rfl ?_
      refine ex_goto (q := 223) dX8_doLine_104 (by decide) ?_
      exact ex_forget (lo' := [some (vr 8 l0), some (vr 1 l1), some (vi l2), none, none]) ⟨Or.inr rfl, Or.inr rfl, Or.inr rfl, Or.inl rfl, Or.inl rfl, trivial⟩ (x_X8_doLine_223 hF)
    · have hF := im c9 hF
      by_cases c12 : l2 = 2
      · have hF := ip c12 hF
        refine ex_tsw 2 (tgt := 107) dX8_doLine_26 c12 (by decide) (by decide) rfl (by decide) ?_
        refine ex_aload_n (q := 108) dX8_doLine_107 rfl rfl ?_
        refine ex_aload_n (q := 109) dX8_doLine_108 rfl rfl ?_
        refine ex_iload_n (q := 110) dX8_doLine_109 rfl rfl ?_
        refine ex_iload (q := 112) dX8_doLine_110 rfl rfl ?_
        refine ex_iconst (q := 113) dX8_doLine_112 rfl ⟨by decide, by decide⟩ ?_
        obtain ⟨g14, hF⟩ := zg hF
        obtain ⟨r13, h13, e13, hF⟩ := zb_some hF
        refine ex_callV (d' := 4) (q := 116) (as := [vr 1 l1, vi r2, vi r4, vi 1]) (st1 := []) (r := none) (h2 := h13) dX8_doLine_113 rfl (run_X8_borrow e13) mc_X8_borrow mv_X8_borrow ml_X8_159 (by decide) g14 rfl rfl (Nat.le_of_ble_eq_true rfl) rfl ?_
        refine ex_goto (q := 223) dX8_doLine_116 (by decide) ?_
        exact ex_forget (lo' := [some (vr 8 l0), some (vr 1 l1), some (vi l2), none, none]) ⟨Or.inr rfl, Or.inr rfl, Or.inr rfl, Or.inl rfl, Or.inl rfl, trivial⟩ (x_X8_doLine_223 hF)
      · have hF := im c12 hF
        by_cases c15 : l2 = 3
        · have hF := ip c15 hF
          refine ex_tsw 3 (tgt := 119) dX8_doLine_26 c15 (by decide) (by decide) rfl (by decide) ?_
          refine ex_aload_n (q := 120) dX8_doLine_119 rfl rfl ?_
          refine ex_aload_n (q := 121) dX8_doLine_120 rfl rfl ?_
          refine ex_aload_n (q := 122) dX8_doLine_121 rfl rfl ?_
          refine ex_iload_n (q := 123) dX8_doLine_122 rfl rfl ?_
          obtain ⟨r16, h16, e16, hF⟩ := zb_some hF
          refine ex_callV (d' := 1) (q := 126) (as := [vi r2]) (st1 := [vr 4 r16, vr 1 l1, vr 8 l0]) (r := (some (vr 4 r16))) (h2 := h16) dX8_doLine_123 rfl (run_X1_in e16) mc_X1_in mv_X1_in ml_X8_167 (by decide) g1 rfl rfl (Nat.le_of_ble_eq_true rfl) rfl ?_
          obtain ⟨g18, hF⟩ := zg hF
          obtain ⟨r17, h17, e17, hF⟩ := zb_some hF
          refine ex_callV (d' := 3) (q := 129) (as := [vr 1 l1, vr 4 r16]) (st1 := []) (r := none) (h2 := h17) dX8_doLine_126 rfl (run_X8_use e17) mc_X8_use mv_X8_use ml_X8_171 (by decide) g18 rfl rfl (Nat.le_of_ble_eq_true rfl) rfl ?_
          refine ex_goto (q := 223) dX8_doLine_129 (by decide) ?_
          exact ex_forget (lo' := [some (vr 8 l0), some (vr 1 l1), some (vi l2), none, none]) ⟨Or.inr rfl, Or.inr rfl, Or.inr rfl, Or.inl rfl, Or.inl rfl, trivial⟩ (x_X8_doLine_223 hF)
        · have hF := im c15 hF
          by_cases c19 : l2 = 4
          · have hF := ip c19 hF
            refine ex_tsw 4 (tgt := 132) dX8_doLine_26 c19 (by decide) (by decide) rfl (by decide) ?_
            refine ex_aload_n (q := 133) dX8_doLine_132 rfl rfl ?_
            refine ex_aload_n (q := 134) dX8_doLine_133 rfl rfl ?_
            refine ex_aload_n (q := 135) dX8_doLine_134 rfl rfl ?_
            refine ex_iload_n (q := 136) dX8_doLine_135 rfl rfl ?_
            obtain ⟨r20, h20, e20, hF⟩ := zb_some hF
            refine ex_callV (d' := 1) (q := 139) (as := [vi r2]) (st1 := [vr 4 r20, vr 1 l1, vr 8 l0]) (r := (some (vr 4 r20))) (h2 := h20) dX8_doLine_136 rfl (run_X1_in e20) mc_X1_in mv_X1_in ml_X8_167 (by decide) g1 rfl rfl (Nat.le_of_ble_eq_true rfl) rfl ?_
            obtain ⟨g22, hF⟩ := zg hF
            obtain ⟨r21, h21, e21, hF⟩ := zb_some hF
            refine ex_callV (d' := 3) (q := 142) (as := [vr 1 l1, vr 4 r20]) (st1 := []) (r := none) (h2 := h21) dX8_doLine_139 rfl (run_X8_bringBack e21) mc_X8_bringBack mv_X8_bringBack ml_X8_175 (by decide) g22 rfl rfl (Nat.le_of_ble_eq_true rfl) rfl ?_
            refine ex_goto (q := 223) dX8_doLine_142 (by decide) ?_
            exact ex_forget (lo' := [some (vr 8 l0), some (vr 1 l1), some (vi l2), none, none]) ⟨Or.inr rfl, Or.inr rfl, Or.inr rfl, Or.inl rfl, Or.inl rfl, trivial⟩ (x_X8_doLine_223 hF)
          · have hF := im c19 hF
            by_cases c23 : l2 = 5
            · have hF := ip c23 hF
              refine ex_tsw 5 (tgt := 145) dX8_doLine_26 c23 (by decide) (by decide) rfl (by decide) ?_
              refine ex_aload_n (q := 146) dX8_doLine_145 rfl rfl ?_
              refine ex_aload_n (q := 147) dX8_doLine_146 rfl rfl ?_
              refine ex_aload_n (q := 148) dX8_doLine_147 rfl rfl ?_
              refine ex_iload_n (q := 149) dX8_doLine_148 rfl rfl ?_
              obtain ⟨r24, h24, e24, hF⟩ := zb_some hF
              refine ex_callV (d' := 1) (q := 152) (as := [vi r2]) (st1 := [vr 4 r24, vr 1 l1, vr 8 l0]) (r := (some (vr 4 r24))) (h2 := h24) dX8_doLine_149 rfl (run_X1_in e24) mc_X1_in mv_X1_in ml_X8_167 (by decide) g1 rfl rfl (Nat.le_of_ble_eq_true rfl) rfl ?_
              refine ex_iload (q := 154) dX8_doLine_152 rfl rfl ?_
              obtain ⟨g26, hF⟩ := zg hF
              obtain ⟨r25, h25, e25, hF⟩ := zb_some hF
              refine ex_callV (d' := 3) (q := 157) (as := [vr 1 l1, vr 4 r24, vi r4]) (st1 := []) (r := none) (h2 := h25) dX8_doLine_154 rfl (run_X8_lendOn e25) mc_X8_lendOn mv_X8_lendOn ml_X8_178 (by decide) g26 rfl rfl (Nat.le_of_ble_eq_true rfl) rfl ?_
              refine ex_goto (q := 223) dX8_doLine_157 (by decide) ?_
              exact ex_forget (lo' := [some (vr 8 l0), some (vr 1 l1), some (vi l2), none, none]) ⟨Or.inr rfl, Or.inr rfl, Or.inr rfl, Or.inl rfl, Or.inl rfl, trivial⟩ (x_X8_doLine_223 hF)
            · have hF := im c23 hF
              by_cases c27 : l2 = 6
              · have hF := ip c27 hF
                refine ex_tsw 6 (tgt := 160) dX8_doLine_26 c27 (by decide) (by decide) rfl (by decide) ?_
                refine ex_aload_n (q := 161) dX8_doLine_160 rfl rfl ?_
                refine ex_aload_n (q := 162) dX8_doLine_161 rfl rfl ?_
                refine ex_aload_n (q := 163) dX8_doLine_162 rfl rfl ?_
                refine ex_iload_n (q := 164) dX8_doLine_163 rfl rfl ?_
                obtain ⟨r28, h28, e28, hF⟩ := zb_some hF
                refine ex_callV (d' := 1) (q := 167) (as := [vi r2]) (st1 := [vr 4 r28, vr 1 l1, vr 8 l0]) (r := (some (vr 4 r28))) (h2 := h28) dX8_doLine_164 rfl (run_X1_in e28) mc_X1_in mv_X1_in ml_X8_167 (by decide) g1 rfl rfl (Nat.le_of_ble_eq_true rfl) rfl ?_
                refine ex_iload (q := 169) dX8_doLine_167 rfl rfl ?_
                obtain ⟨g30, hF⟩ := zg hF
                obtain ⟨r29, h29, e29, hF⟩ := zb_some hF
                refine ex_callV (d' := 3) (q := 172) (as := [vr 1 l1, vr 4 r28, vi r4]) (st1 := []) (r := none) (h2 := h29) dX8_doLine_169 rfl (run_X8_passOn e29) mc_X8_passOn mv_X8_passOn ml_X8_182 (by decide) g30 rfl rfl (Nat.le_of_ble_eq_true rfl) rfl ?_
                refine ex_goto (q := 223) dX8_doLine_172 (by decide) ?_
                exact ex_forget (lo' := [some (vr 8 l0), some (vr 1 l1), some (vi l2), none, none]) ⟨Or.inr rfl, Or.inr rfl, Or.inr rfl, Or.inl rfl, Or.inl rfl, trivial⟩ (x_X8_doLine_223 hF)
              · have hF := im c27 hF
                by_cases c31 : l2 = 7
                · have hF := ip c31 hF
                  refine ex_tsw 7 (tgt := 175) dX8_doLine_26 c31 (by decide) (by decide) rfl (by decide) ?_
                  refine ex_aload_n (q := 176) dX8_doLine_175 rfl rfl ?_
                  refine ex_aload_n (q := 177) dX8_doLine_176 rfl rfl ?_
                  refine ex_iload_n (q := 178) dX8_doLine_177 rfl rfl ?_
                  refine ex_aload_n (q := 179) dX8_doLine_178 rfl rfl ?_
                  refine ex_iload (q := 181) dX8_doLine_179 rfl rfl ?_
                  obtain ⟨r32, h32, e32, hF⟩ := zb_some hF
                  refine ex_callV (d' := 1) (q := 184) (as := [vi r4]) (st1 := [vr 4 r32, vi r2, vr 1 l1, vr 8 l0]) (r := (some (vr 4 r32))) (h2 := h32) dX8_doLine_181 rfl (run_X1_in e32) mc_X1_in mv_X1_in ml_X8_167 (by decide) g1 rfl rfl (Nat.le_of_ble_eq_true rfl) rfl ?_
                  obtain ⟨g34, hF⟩ := zg hF
                  obtain ⟨r33, h33, e33, hF⟩ := zb_some hF
                  refine ex_callV (d' := 3) (q := 187) (as := [vr 1 l1, vi r2, vr 4 r32]) (st1 := []) (r := none) (h2 := h33) dX8_doLine_184 rfl (run_X8_callAct e33) mc_X8_callAct mv_X8_callAct ml_X8_185 (by decide) g34 rfl rfl (Nat.le_of_ble_eq_true rfl) rfl ?_
                  refine ex_goto (q := 223) dX8_doLine_187 (by decide) ?_
                  exact ex_forget (lo' := [some (vr 8 l0), some (vr 1 l1), some (vi l2), none, none]) ⟨Or.inr rfl, Or.inr rfl, Or.inr rfl, Or.inl rfl, Or.inl rfl, trivial⟩ (x_X8_doLine_223 hF)
                · have hF := im c31 hF
                  by_cases c35 : l2 = 8
                  · have hF := ip c35 hF
                    refine ex_tsw 8 (tgt := 190) dX8_doLine_26 c35 (by decide) (by decide) rfl (by decide) ?_
                    refine ex_aload_n (q := 191) dX8_doLine_190 rfl rfl ?_
                    refine ex_aload_n (q := 192) dX8_doLine_191 rfl rfl ?_
                    refine ex_iload_n (q := 193) dX8_doLine_192 rfl rfl ?_
                    refine ex_iconst (q := 194) dX8_doLine_193 rfl ⟨by decide, by decide⟩ ?_
                    obtain ⟨g37, hF⟩ := zg hF
                    obtain ⟨r36, h36, e36, hF⟩ := zb_some hF
                    refine ex_callV (d' := 2) (q := 197) (as := [vr 1 l1, vi r2, vi (-1)]) (st1 := []) (r := none) (h2 := h36) dX8_doLine_194 rfl (run_X8_fail e36) mc_X8_fail mv_X8_fail ml_X8_189 (by decide) g37 rfl rfl (Nat.le_of_ble_eq_true rfl) rfl ?_
                    refine ex_goto (q := 223) dX8_doLine_197 (by decide) ?_
                    exact ex_forget (lo' := [some (vr 8 l0), some (vr 1 l1), some (vi l2), none, none]) ⟨Or.inr rfl, Or.inr rfl, Or.inr rfl, Or.inl rfl, Or.inl rfl, trivial⟩ (x_X8_doLine_223 hF)
                  · have hF := im c35 hF
                    by_cases c38 : l2 = 9
                    · have hF := ip c38 hF
                      refine ex_tsw 9 (tgt := 200) dX8_doLine_26 c38 (by decide) (by decide) rfl (by decide) ?_
                      refine ex_aload_n (q := 201) dX8_doLine_200 rfl rfl ?_
                      refine ex_iconst (q := 202) dX8_doLine_201 rfl ⟨by decide, by decide⟩ ?_
                      obtain ⟨g39, hF⟩ := zg hF
                      refine ex_put (q := 205) 12 dX8_doLine_202 rfl fl_X8_97 (by decide) g39 rfl rfl (fun z => by cases z) ?_
                      refine ex_goto (q := 223) dX8_doLine_205 (by decide) ?_
                      exact ex_forget (lo' := [some (vr 8 l0), some (vr 1 l1), some (vi l2), none, none]) ⟨Or.inr rfl, Or.inr rfl, Or.inr rfl, Or.inl rfl, Or.inl rfl, trivial⟩ (x_X8_doLine_223 hF)
                    · have hF := im c38 hF
                      by_cases c40 : l2 = 10
                      · have hF := ip c40 hF
                        refine ex_tsw 10 (tgt := 208) dX8_doLine_26 c40 (by decide) (by decide) rfl (by decide) ?_
                        refine ex_aload_n (q := 209) dX8_doLine_208 rfl rfl ?_
                        refine ex_iconst (q := 210) dX8_doLine_209 rfl ⟨by decide, by decide⟩ ?_
                        obtain ⟨g41, hF⟩ := zg hF
                        refine ex_put (q := 213) 12 dX8_doLine_210 rfl fl_X8_97 (by decide) g41 rfl rfl (fun z => by cases z) ?_
                        refine ex_goto (q := 223) dX8_doLine_213 (by decide) ?_
                        exact ex_forget (lo' := [some (vr 8 l0), some (vr 1 l1), some (vi l2), none, none]) ⟨Or.inr rfl, Or.inr rfl, Or.inr rfl, Or.inl rfl, Or.inl rfl, trivial⟩ (x_X8_doLine_223 hF)
                      · have hF := im c40 hF
                        refine ex_tswD (tgt := 216) dX8_doLine_26 (by omega) (by decide) ?_
                        refine ex_aload_n (q := 217) dX8_doLine_216 rfl rfl ?_
                        refine ex_aload_n (q := 218) dX8_doLine_217 rfl rfl ?_
                        refine ex_iload_n (q := 219) dX8_doLine_218 rfl rfl ?_
                        refine ex_iload_n (q := 220) dX8_doLine_219 rfl rfl ?_
                        obtain ⟨g43, hF⟩ := zg hF
                        obtain ⟨r42, h42, e42, hF⟩ := zb_some hF
                        refine ex_callV (d' := 2) (q := 223) (as := [vr 1 l1, vi l2, vi r2]) (st1 := []) (r := none) (h2 := h42) dX8_doLine_220 rfl (run_X8_beginBlock e42) mc_X8_beginBlock mv_X8_beginBlock ml_X8_192 (by decide) g43 rfl rfl (Nat.le_of_ble_eq_true rfl) rfl ?_
                        exact ex_forget (lo' := [some (vr 8 l0), some (vr 1 l1), some (vi l2), none, none]) ⟨Or.inr rfl, Or.inr rfl, Or.inr rfl, Or.inl rfl, Or.inl rfl, trivial⟩ (x_X8_doLine_223 hF)
def F_X8_doLine (l0 l1 l2 : Int) (h : zH) : zO := F_X8_doLine_0 l0 l1 l2 h
theorem run_X8_doLine {l0 l1 l2 : Int} {h : zH} {r : Int} {h' : zH} (hF : F_X8_doLine l0 l1 l2 h = some (r, h')) : Run 5 yX8_doLine cX8_doLine 5 none [vr 8 l0, vr 1 l1, vi l2] h none h' := run_of (M := M_X8_doLine) (by decide) rfl (fun z => by cases z) (Nat.le_of_ble_eq_true rfl) (x_X8_doLine_0 hF)
abbrev M_X8_spend : zM := (RX8, (cX8_spend, (3, (none, false))))
def F_X8_spend_49 (ag0 : Int → zH → zO) (l0 : Int) (h : zH) : zO := if 0 ≤ l0 then (ag0 l0 (pt (pt h 8 l0 15 (wI ((gt h 8 l0 15) + 1))) 8 l0 7 (wI ((gt (pt h 8 l0 15 (wI ((gt h 8 l0 15) + 1))) 8 l0 7) - 1)))) else none
set_option maxHeartbeats 1000000 in
theorem x_X8_spend_49 {ag0 : Int → zH → zO} (hag0 : ∀ (l0 : Int) (h : zH) (r : Int) (h' : zH), ag0 l0 h = some (r, h') → Ex 3 M_X8_spend 0 [some (vr 8 l0), none, none] [] h (fun r1 h1 => r1 = none ∧ h1 = h')) {l0 : Int} {h : zH} {r : Int} {h' : zH} (hF : F_X8_spend_49 ag0 l0 h = some (r, h')) : Ex 3 M_X8_spend 49 [some (vr 8 l0), none, none] [] h (fun r1 h1 => r1 = none ∧ h1 = h') := by
  unfold F_X8_spend_49 at hF
  refine ex_aload_n (q := 50) dX8_spend_49 rfl rfl ?_
  refine ex_dup (q := 51) dX8_spend_50 rfl (fun _ z => by cases z) ?_
  obtain ⟨g1, hF⟩ := zg hF
  refine ex_get (q := 54) (v := vi (gt h 8 l0 15)) 15 dX8_spend_51 rfl fl_X8_75 g1 rfl rfl ?_
  refine ex_iconst (q := 55) dX8_spend_54 rfl ⟨by decide, by decide⟩ ?_
  refine ex_iadd (q := 56) dX8_spend_55 rfl ?_
  refine ex_put (q := 59) 15 dX8_spend_56 rfl fl_X8_75 (by decide) g1 rfl rfl (fun z => by cases z) ?_
  refine ex_aload_n (q := 60) dX8_spend_59 rfl rfl ?_
  refine ex_dup (q := 61) dX8_spend_60 rfl (fun _ z => by cases z) ?_
  refine ex_get (q := 64) (v := vi (gt (pt h 8 l0 15 (wI ((gt h 8 l0 15) + 1))) 8 l0 7)) 7 dX8_spend_61 rfl fl_X8_135 g1 rfl rfl ?_
  refine ex_iconst (q := 65) dX8_spend_64 rfl ⟨by decide, by decide⟩ ?_
  refine ex_isub (q := 66) dX8_spend_65 rfl ?_
  refine ex_put (q := 69) 7 dX8_spend_66 rfl fl_X8_135 (by decide) g1 rfl rfl (fun z => by cases z) ?_
  refine ex_goto (q := 0) dX8_spend_69 (by decide) ?_
  exact ex_forget (lo' := [some (vr 8 l0), none, none]) ⟨Or.inr rfl, Or.inl rfl, Or.inl rfl, trivial⟩ (hag0 _ _ _ _ hF)
def F_X8_spend_19b (ag0 : Int → zH → zO) (ag19 : Int → Int → Int → zH → zO) (l0 l1 l2 : Int) (h : zH) : zO := if 160 ≤ l2 then (F_X8_spend_49 ag0 l0 h) else (if 0 ≤ l1 then (if gt h 9 l1 2 = -1 then (F_X8_spend_49 ag0 l0 h) else (if 0 ≤ l0 then (zb (F_X8_giveUp l0 (gt h 9 l1 2) 2 h) (fun r4 h4 => ag19 l0 l1 (wI (l2 + 1)) h4)) else none)) else none)
set_option maxHeartbeats 1000000 in
theorem x_X8_spend_19b {ag0 : Int → zH → zO} {ag19 : Int → Int → Int → zH → zO} (hag0 : ∀ (l0 : Int) (h : zH) (r : Int) (h' : zH), ag0 l0 h = some (r, h') → Ex 3 M_X8_spend 0 [some (vr 8 l0), none, none] [] h (fun r1 h1 => r1 = none ∧ h1 = h')) (hag19 : ∀ (l0 l1 l2 : Int) (h : zH) (r : Int) (h' : zH), ag19 l0 l1 l2 h = some (r, h') → Ex 3 M_X8_spend 19 [some (vr 8 l0), some (vr 9 l1), some (vi l2)] [] h (fun r1 h1 => r1 = none ∧ h1 = h')) {l0 l1 l2 : Int} {h : zH} {r : Int} {h' : zH} (hF : F_X8_spend_19b ag0 ag19 l0 l1 l2 h = some (r, h')) : Ex 3 M_X8_spend 19 [some (vr 8 l0), some (vr 9 l1), some (vi l2)] [] h (fun r1 h1 => r1 = none ∧ h1 = h') := by
  unfold F_X8_spend_19b at hF
  refine ex_iload_n (q := 20) dX8_spend_19 rfl rfl ?_
  refine ex_sipush (q := 23) dX8_spend_20 rfl (by decide) ⟨by decide, by decide⟩ ?_
  refine ex_icmp_ge (q := 26) (tgt := 49) dX8_spend_23 rfl (by decide) (fun c1 => ?_) (fun c1 => ?_)
  · have hF := ip c1 hF
    exact ex_forget (lo' := [some (vr 8 l0), none, none]) ⟨Or.inr rfl, Or.inl rfl, Or.inl rfl, trivial⟩ (x_X8_spend_49 hag0 hF)
  · have hF := im c1 hF
    refine ex_aload_n (q := 27) dX8_spend_26 rfl rfl ?_
    obtain ⟨g2, hF⟩ := zg hF
    refine ex_get (q := 30) (v := vr 4 (gt h 9 l1 2)) 2 dX8_spend_27 rfl fl_X8_370 g2 rfl rfl ?_
    refine ex_ifnull (q := 33) (tgt := 49) dX8_spend_30 rfl (by decide) (fun c3 => ?_) (fun c3 => ?_)
    · have hF := ip c3 hF
      exact ex_forget (lo' := [some (vr 8 l0), none, none]) ⟨Or.inr rfl, Or.inl rfl, Or.inl rfl, trivial⟩ (x_X8_spend_49 hag0 hF)
    · have hF := im c3 hF
      refine ex_aload_n (q := 34) dX8_spend_33 rfl rfl ?_
      refine ex_aload_n (q := 35) dX8_spend_34 rfl rfl ?_
      refine ex_get (q := 38) (v := vr 4 (gt h 9 l1 2)) 2 dX8_spend_35 rfl fl_X8_370 g2 rfl rfl ?_
      refine ex_iconst (q := 39) dX8_spend_38 rfl ⟨by decide, by decide⟩ ?_
      obtain ⟨g5, hF⟩ := zg hF
      obtain ⟨r4, h4, e4, hF⟩ := zb_some hF
      refine ex_callV (d' := 2) (q := 42) (as := [vr 4 (gt h 9 l1 2), vi 2]) (st1 := [vi r4]) (r := (some (vi r4))) (h2 := h4) dX8_spend_39 rfl (run_X8_giveUp e4) mc_X8_giveUp mv_X8_giveUp ml_X8_259 (by decide) g5 rfl rfl (Nat.le_of_ble_eq_true rfl) rfl ?_
      refine ex_pop (q := 43) dX8_spend_42 rfl (fun _ z => by cases z) ?_
      refine ex_iinc (q := 46) (lo' := [some (vr 8 l0), some (vr 9 l1), some (vi (wI (l2 + 1)))]) dX8_spend_43 rfl rfl (by decide) rfl rfl ?_
      refine ex_goto (q := 19) dX8_spend_46 (by decide) ?_
      exact ex_forget (lo' := [some (vr 8 l0), some (vr 9 l1), some (vi (wI (l2 + 1)))]) ⟨Or.inr rfl, Or.inr rfl, Or.inr rfl, trivial⟩ (hag19 _ _ _ _ _ _ hF)
def F_X8_spend_19 (ag0 : Int → zH → zO) : Nat → Int → Int → Int → zH → zO
  | 0, _, _, _, _ => none
  | n + 1, l0, l1, l2, h => F_X8_spend_19b ag0 (F_X8_spend_19 ag0 n) l0 l1 l2 h
theorem x_X8_spend_19 {ag0 : Int → zH → zO} (hag0 : ∀ (l0 : Int) (h : zH) (r : Int) (h' : zH), ag0 l0 h = some (r, h') → Ex 3 M_X8_spend 0 [some (vr 8 l0), none, none] [] h (fun r1 h1 => r1 = none ∧ h1 = h')) : ∀ (n : Nat) (l0 l1 l2 : Int) (h : zH) (r : Int) (h' : zH), F_X8_spend_19 ag0 n l0 l1 l2 h = some (r, h') → Ex 3 M_X8_spend 19 [some (vr 8 l0), some (vr 9 l1), some (vi l2)] [] h (fun r1 h1 => r1 = none ∧ h1 = h')
  | 0, _, _, _, _, _, _, hF => by cases hF
  | n + 1, _, _, _, _, _, _, hF => x_X8_spend_19b hag0 (x_X8_spend_19 hag0 n) hF
def F_X8_spend_0b (ag0 : Int → zH → zO) (l0 : Int) (h : zH) : zO := if 0 ≤ l0 then (if gt h 8 l0 7 ≤ 0 then (some (0, h)) else (if 0 ≤ gt h 8 l0 6 then (if 0 ≤ gt h 8 l0 7 ∧ gt h 8 l0 7 < 91 then (F_X8_spend_19 ag0 zF l0 (gt h 41 (gt h 8 l0 6) (gt h 8 l0 7)) 0 h) else none) else none)) else none
set_option maxHeartbeats 1000000 in
theorem x_X8_spend_0b {ag0 : Int → zH → zO} (hag0 : ∀ (l0 : Int) (h : zH) (r : Int) (h' : zH), ag0 l0 h = some (r, h') → Ex 3 M_X8_spend 0 [some (vr 8 l0), none, none] [] h (fun r1 h1 => r1 = none ∧ h1 = h')) {l0 : Int} {h : zH} {r : Int} {h' : zH} (hF : F_X8_spend_0b ag0 l0 h = some (r, h')) : Ex 3 M_X8_spend 0 [some (vr 8 l0), none, none] [] h (fun r1 h1 => r1 = none ∧ h1 = h') := by
  unfold F_X8_spend_0b at hF
  refine ex_aload_n (q := 1) dX8_spend_0 rfl rfl ?_
  obtain ⟨g1, hF⟩ := zg hF
  refine ex_get (q := 4) (v := vi (gt h 8 l0 7)) 7 dX8_spend_1 rfl fl_X8_135 g1 rfl rfl ?_
  refine ex_if_le (q := 7) (tgt := 72) dX8_spend_4 rfl (by decide) (fun c2 => ?_) (fun c2 => ?_)
  · have hF := ip c2 hF
    obtain ⟨rfl, rfl⟩ := zr hF
    exact ex_ret none rfl ⟨dX8_spend_72, rfl⟩ ⟨rfl, rfl⟩
  · have hF := im c2 hF
    refine ex_aload_n (q := 8) dX8_spend_7 rfl rfl ?_
    refine ex_get (q := 11) (v := vr 41 (gt h 8 l0 6)) 6 dX8_spend_8 rfl fl_X8_25 g1 rfl rfl ?_
    refine ex_aload_n (q := 12) dX8_spend_11 rfl rfl ?_
    refine ex_get (q := 15) (v := vi (gt h 8 l0 7)) 7 dX8_spend_12 rfl fl_X8_135 g1 rfl rfl ?_
    obtain ⟨g3, hF⟩ := zg hF
    obtain ⟨g4, hF⟩ := zg hF
    refine ex_aald (q := 16) 9 dX8_spend_15 rfl kd_41 (by decide) g3 g4.1 g4.2 ?_
    refine ex_astore_n (q := 17) (lo' := [some (vr 8 l0), some (vr 9 (gt h 41 (gt h 8 l0 6) (gt h 8 l0 7))), none]) dX8_spend_16 rfl (by decide) rfl rfl ?_
    refine ex_iconst (q := 18) dX8_spend_17 rfl ⟨by decide, by decide⟩ ?_
    refine ex_istore_n (q := 19) (lo' := [some (vr 8 l0), some (vr 9 (gt h 41 (gt h 8 l0 6) (gt h 8 l0 7))), some (vi 0)]) dX8_spend_18 rfl (by decide) rfl rfl ?_
    exact ex_forget (lo' := [some (vr 8 l0), some (vr 9 (gt h 41 (gt h 8 l0 6) (gt h 8 l0 7))), some (vi 0)]) ⟨Or.inr rfl, Or.inr rfl, Or.inr rfl, trivial⟩ (x_X8_spend_19 hag0 _ _ _ _ _ _ _ hF)
def F_X8_spend_0 : Nat → Int → zH → zO
  | 0, _, _ => none
  | n + 1, l0, h => F_X8_spend_0b (F_X8_spend_0 n) l0 h
theorem x_X8_spend_0 : ∀ (n : Nat) (l0 : Int) (h : zH) (r : Int) (h' : zH), F_X8_spend_0 n l0 h = some (r, h') → Ex 3 M_X8_spend 0 [some (vr 8 l0), none, none] [] h (fun r1 h1 => r1 = none ∧ h1 = h')
  | 0, _, _, _, _, hF => by cases hF
  | n + 1, _, _, _, _, hF => x_X8_spend_0b (x_X8_spend_0 n) hF
def F_X8_spend (l0 : Int) (h : zH) : zO := F_X8_spend_0 zF l0 h
theorem run_X8_spend {l0 : Int} {h : zH} {r : Int} {h' : zH} (hF : F_X8_spend l0 h = some (r, h')) : Run 3 yX8_spend cX8_spend 3 none [vr 8 l0] h none h' := run_of (M := M_X8_spend) (by decide) rfl (fun z => by cases z) (Nat.le_of_ble_eq_true rfl) (x_X8_spend_0 _ _ _ _ _ hF)
abbrev M_X8_perform : zM := (RX8, (cX8_perform, (6, ((some .int), false))))
def F_X8_perform_141 (l0 : Int) (h : zH) : zO := if 0 ≤ l0 then (if gt h 8 l0 3 ≤ 0 then (if gt h 8 l0 12 ≠ 3 then (some (gt (pt h 8 l0 17 0) 8 l0 17, (pt h 8 l0 17 0))) else (some (gt (pt h 8 l0 17 1) 8 l0 17, (pt h 8 l0 17 1)))) else (zb (F_X8_spend l0 h) (fun r4 h4 => some (gt (pt h4 8 l0 17 2) 8 l0 17, (pt h4 8 l0 17 2))))) else none
set_option maxHeartbeats 1000000 in
theorem x_X8_perform_141 {l0 : Int} {h : zH} {r : Int} {h' : zH} (hF : F_X8_perform_141 l0 h = some (r, h')) : Ex 6 M_X8_perform 141 [some (vr 8 l0), none, none, none, none, none] [] h (fun r1 h1 => r1 = some (vi r) ∧ h1 = h') := by
  unfold F_X8_perform_141 at hF
  refine ex_aload_n (q := 142) dX8_perform_141 rfl rfl ?_
  obtain ⟨g1, hF⟩ := zg hF
  refine ex_get (q := 145) (v := vi (gt h 8 l0 3)) 3 dX8_perform_142 rfl fl_X8_94 g1 rfl rfl ?_
  refine ex_if_le (q := 148) (tgt := 160) dX8_perform_145 rfl (by decide) (fun c2 => ?_) (fun c2 => ?_)
  · have hF := ip c2 hF
    refine ex_aload_n (q := 161) dX8_perform_160 rfl rfl ?_
    refine ex_aload_n (q := 162) dX8_perform_161 rfl rfl ?_
    refine ex_get (q := 165) (v := vi (gt h 8 l0 12)) 12 dX8_perform_162 rfl fl_X8_97 g1 rfl rfl ?_
    refine ex_iconst (q := 166) dX8_perform_165 rfl ⟨by decide, by decide⟩ ?_
    refine ex_icmp_ne (q := 169) (tgt := 173) dX8_perform_166 rfl (by decide) (fun c3 => ?_) (fun c3 => ?_)
    · have hF := ip c3 hF
      refine ex_iconst (q := 174) dX8_perform_173 rfl ⟨by decide, by decide⟩ ?_
      refine ex_put (q := 177) 17 dX8_perform_174 rfl fl_X8_63 (by decide) g1 rfl rfl (fun z => by cases z) ?_
      refine ex_aload_n (q := 178) dX8_perform_177 rfl rfl ?_
      refine ex_get (q := 181) (v := vi (gt (pt h 8 l0 17 0) 8 l0 17)) 17 dX8_perform_178 rfl fl_X8_63 g1 rfl rfl ?_
      obtain ⟨rfl, rfl⟩ := zr hF
      exact ex_ret (some (vi (gt (pt h 8 l0 17 0) 8 l0 17))) rfl ⟨dX8_perform_181, Or.inl rfl⟩ ⟨rfl, rfl⟩
    · have hF := im c3 hF
      refine ex_iconst (q := 170) dX8_perform_169 rfl ⟨by decide, by decide⟩ ?_
      refine ex_goto (q := 174) dX8_perform_170 (by decide) ?_
      refine ex_put (q := 177) 17 dX8_perform_174 rfl fl_X8_63 (by decide) g1 rfl rfl (fun z => by cases z) ?_
      refine ex_aload_n (q := 178) dX8_perform_177 rfl rfl ?_
      refine ex_get (q := 181) (v := vi (gt (pt h 8 l0 17 1) 8 l0 17)) 17 dX8_perform_178 rfl fl_X8_63 g1 rfl rfl ?_
      obtain ⟨rfl, rfl⟩ := zr hF
      exact ex_ret (some (vi (gt (pt h 8 l0 17 1) 8 l0 17))) rfl ⟨dX8_perform_181, Or.inl rfl⟩ ⟨rfl, rfl⟩
  · have hF := im c2 hF
    refine ex_aload_n (q := 149) dX8_perform_148 rfl rfl ?_
    obtain ⟨r4, h4, e4, hF⟩ := zb_some hF
    refine ex_callV (d' := 3) (q := 152) (as := []) (st1 := []) (r := none) (h2 := h4) dX8_perform_149 rfl (run_X8_spend e4) mc_X8_spend mv_X8_spend ml_X8_126 (by decide) g1 rfl rfl (Nat.le_of_ble_eq_true rfl) rfl ?_
    refine ex_aload_n (q := 153) dX8_perform_152 rfl rfl ?_
    refine ex_iconst (q := 154) dX8_perform_153 rfl ⟨by decide, by decide⟩ ?_
    refine ex_put (q := 157) 17 dX8_perform_154 rfl fl_X8_63 (by decide) g1 rfl rfl (fun z => by cases z) ?_
    refine ex_goto (q := 177) dX8_perform_157 (by decide) ?_
    refine ex_aload_n (q := 178) dX8_perform_177 rfl rfl ?_
    refine ex_get (q := 181) (v := vi (gt (pt h4 8 l0 17 2) 8 l0 17)) 17 dX8_perform_178 rfl fl_X8_63 g1 rfl rfl ?_
    obtain ⟨rfl, rfl⟩ := zr hF
    exact ex_ret (some (vi (gt (pt h4 8 l0 17 2) 8 l0 17))) rfl ⟨dX8_perform_181, Or.inl rfl⟩ ⟨rfl, rfl⟩
def F_X8_perform_111 (ag21 : Int → Int → zH → zO) (l0 l3 l4 : Int) (h : zH) : zO := if 0 ≤ l0 then (zb (F_X8_reachMark l0 l4 h) (fun r1 h1 => ag21 l0 (wI (l3 + 1)) h1)) else none
set_option maxHeartbeats 1000000 in
theorem x_X8_perform_111 {ag21 : Int → Int → zH → zO} (hag21 : ∀ (l0 l3 : Int) (h : zH) (r : Int) (h' : zH), ag21 l0 l3 h = some (r, h') → Ex 6 M_X8_perform 21 [some (vr 8 l0), none, none, some (vi l3), none, none] [] h (fun r1 h1 => r1 = some (vi r) ∧ h1 = h')) {l0 l3 l4 : Int} {h : zH} {r : Int} {h' : zH} (hF : F_X8_perform_111 ag21 l0 l3 l4 h = some (r, h')) : Ex 6 M_X8_perform 111 [some (vr 8 l0), none, none, some (vi l3), some (vr 1 l4), none] [] h (fun r1 h1 => r1 = some (vi r) ∧ h1 = h') := by
  unfold F_X8_perform_111 at hF
  refine ex_aload_n (q := 112) dX8_perform_111 rfl rfl ?_
  refine ex_aload (q := 114) dX8_perform_112 rfl rfl ?_
  obtain ⟨g2, hF⟩ := zg hF
  obtain ⟨r1, h1, e1, hF⟩ := zb_some hF
  refine ex_callV (d' := 5) (q := 117) (as := [vr 1 l4]) (st1 := []) (r := none) (h2 := h1) dX8_perform_114 rfl (run_X8_reachMark e1) mc_X8_reachMark mv_X8_reachMark ml_X8_115 (by decide) g2 rfl rfl (Nat.le_of_ble_eq_true rfl) rfl ?_
  refine ex_goto (q := 135) dX8_perform_117 (by decide) ?_
  refine ex_iinc (q := 138) (lo' := [some (vr 8 l0), none, none, some (vi (wI (l3 + 1))), some (vr 1 l4), none]) dX8_perform_135 rfl rfl (by decide) rfl rfl ?_
  refine ex_goto (q := 21) dX8_perform_138 (by decide) ?_
  exact ex_forget (lo' := [some (vr 8 l0), none, none, some (vi (wI (l3 + 1))), none, none]) ⟨Or.inr rfl, Or.inl rfl, Or.inl rfl, Or.inr rfl, Or.inl rfl, Or.inl rfl, trivial⟩ (hag21 _ _ _ _ _ hF)
def F_X8_perform_21b (ag21 : Int → Int → zH → zO) (l0 l3 : Int) (h : zH) : zO := if 1000000 ≤ l3 then (F_X8_perform_141 l0 h) else (if 0 ≤ l0 then (if gt h 8 l0 3 ≤ 0 then (F_X8_perform_141 l0 h) else (if gt h 8 l0 12 = 4 then (F_X8_perform_141 l0 h) else (if 0 ≤ gt h 8 l0 2 then (if 0 ≤ gt h 8 l0 3 ∧ gt h 8 l0 3 < 11 then (if 0 ≤ gt h 39 (gt h 8 l0 2) (gt h 8 l0 3) then (if 0 ≤ gt h 1 (gt h 39 (gt h 8 l0 2) (gt h 8 l0 3)) 0 then (zb (F_X10_opAt (gt h 1 (gt h 39 (gt h 8 l0 2) (gt h 8 l0 3)) 0) (gt h 1 (gt h 39 (gt h 8 l0 2) (gt h 8 l0 3)) 2) h) (fun r8 h8 => if gt h8 8 l0 12 = 0 then (if r8 = (-1) then (F_X8_perform_111 ag21 l0 l3 (gt h 39 (gt h 8 l0 2) (gt h 8 l0 3)) h8) else (if r8 = 14 then (F_X8_perform_111 ag21 l0 l3 (gt h 39 (gt h 8 l0 2) (gt h 8 l0 3)) h8) else (if r8 = 15 then (F_X8_perform_111 ag21 l0 l3 (gt h 39 (gt h 8 l0 2) (gt h 8 l0 3)) h8) else (if r8 ≠ 16 then (zb (F_X8_step l0 h8) (fun r15 h15 => if r15 = 0 then (ag21 l0 (wI (l3 + 1)) h15) else (zb (F_X8_doLine l0 (gt h 39 (gt h 8 l0 2) (gt h 8 l0 3)) r8 h15) (fun r17 h17 => ag21 l0 (wI (l3 + 1)) h17)))) else (F_X8_perform_111 ag21 l0 l3 (gt h 39 (gt h 8 l0 2) (gt h 8 l0 3)) h8))))) else (zb (F_X8_leave l0 (gt h 39 (gt h 8 l0 2) (gt h 8 l0 3)) h8) (fun r18 h18 => ag21 l0 (wI (l3 + 1)) h18)))) else none) else none) else none) else none))) else none)
set_option maxHeartbeats 1000000 in
theorem x_X8_perform_21b {ag21 : Int → Int → zH → zO} (hag21 : ∀ (l0 l3 : Int) (h : zH) (r : Int) (h' : zH), ag21 l0 l3 h = some (r, h') → Ex 6 M_X8_perform 21 [some (vr 8 l0), none, none, some (vi l3), none, none] [] h (fun r1 h1 => r1 = some (vi r) ∧ h1 = h')) {l0 l3 : Int} {h : zH} {r : Int} {h' : zH} (hF : F_X8_perform_21b ag21 l0 l3 h = some (r, h')) : Ex 6 M_X8_perform 21 [some (vr 8 l0), none, none, some (vi l3), none, none] [] h (fun r1 h1 => r1 = some (vi r) ∧ h1 = h') := by
  unfold F_X8_perform_21b at hF
  refine ex_iload_n (q := 22) dX8_perform_21 rfl rfl ?_
  refine ex_ldc (q := 24) 1000000 dX8_perform_22 rfl (zTbl_i 646 (by decide +kernel) (by decide +kernel)) rfl ⟨by decide, by decide⟩ ?_
  refine ex_icmp_ge (q := 27) (tgt := 141) dX8_perform_24 rfl (by decide) (fun c1 => ?_) (fun c1 => ?_)
  · have hF := ip c1 hF
    exact ex_forget (lo' := [some (vr 8 l0), none, none, none, none, none]) ⟨Or.inr rfl, Or.inl rfl, Or.inl rfl, Or.inl rfl, Or.inl rfl, Or.inl rfl, trivial⟩ (x_X8_perform_141 hF)
  · have hF := im c1 hF
    refine ex_aload_n (q := 28) dX8_perform_27 rfl rfl ?_
    obtain ⟨g2, hF⟩ := zg hF
    refine ex_get (q := 31) (v := vi (gt h 8 l0 3)) 3 dX8_perform_28 rfl fl_X8_94 g2 rfl rfl ?_
    refine ex_if_le (q := 34) (tgt := 141) dX8_perform_31 rfl (by decide) (fun c3 => ?_) (fun c3 => ?_)
    · have hF := ip c3 hF
      exact ex_forget (lo' := [some (vr 8 l0), none, none, none, none, none]) ⟨Or.inr rfl, Or.inl rfl, Or.inl rfl, Or.inl rfl, Or.inl rfl, Or.inl rfl, trivial⟩ (x_X8_perform_141 hF)
    · have hF := im c3 hF
      refine ex_aload_n (q := 35) dX8_perform_34 rfl rfl ?_
      refine ex_get (q := 38) (v := vi (gt h 8 l0 12)) 12 dX8_perform_35 rfl fl_X8_97 g2 rfl rfl ?_
      refine ex_iconst (q := 39) dX8_perform_38 rfl ⟨by decide, by decide⟩ ?_
      refine ex_icmp_eq (q := 42) (tgt := 141) dX8_perform_39 rfl (by decide) (fun c4 => ?_) (fun c4 => ?_)
      · have hF := ip c4 hF
        exact ex_forget (lo' := [some (vr 8 l0), none, none, none, none, none]) ⟨Or.inr rfl, Or.inl rfl, Or.inl rfl, Or.inl rfl, Or.inl rfl, Or.inl rfl, trivial⟩ (x_X8_perform_141 hF)
      · have hF := im c4 hF
        refine ex_aload_n (q := 43) dX8_perform_42 rfl rfl ?_
        refine ex_get (q := 46) (v := vr 39 (gt h 8 l0 2)) 2 dX8_perform_43 rfl fl_X8_11 g2 rfl rfl ?_
        refine ex_aload_n (q := 47) dX8_perform_46 rfl rfl ?_
        refine ex_get (q := 50) (v := vi (gt h 8 l0 3)) 3 dX8_perform_47 rfl fl_X8_94 g2 rfl rfl ?_
        obtain ⟨g5, hF⟩ := zg hF
        obtain ⟨g6, hF⟩ := zg hF
        refine ex_aald (q := 51) 1 dX8_perform_50 rfl kd_39 (by decide) g5 g6.1 g6.2 ?_
        refine ex_astore (q := 53) (lo' := [some (vr 8 l0), none, none, some (vi l3), some (vr 1 (gt h 39 (gt h 8 l0 2) (gt h 8 l0 3))), none]) dX8_perform_51 rfl (by decide) rfl rfl ?_
        refine ex_aload (q := 55) dX8_perform_53 rfl rfl ?_
        obtain ⟨g7, hF⟩ := zg hF
        refine ex_get (q := 58) (v := vr 10 (gt h 1 (gt h 39 (gt h 8 l0 2) (gt h 8 l0 3)) 0)) 0 dX8_perform_55 rfl fl_X8_100 g7 rfl rfl ?_
        refine ex_aload (q := 60) dX8_perform_58 rfl rfl ?_
        refine ex_get (q := 63) (v := vi (gt h 1 (gt h 39 (gt h 8 l0 2) (gt h 8 l0 3)) 2)) 2 dX8_perform_60 rfl fl_X8_104 g7 rfl rfl ?_
        obtain ⟨g9, hF⟩ := zg hF
        obtain ⟨r8, h8, e8, hF⟩ := zb_some hF
        refine ex_callV (d' := 1) (q := 66) (as := [vi (gt h 1 (gt h 39 (gt h 8 l0 2) (gt h 8 l0 3)) 2)]) (st1 := [vi r8]) (r := (some (vi r8))) (h2 := h8) dX8_perform_63 rfl (run_X10_opAt e8) mc_X10_opAt mv_X10_opAt ml_X8_107 (by decide) g9 rfl rfl (Nat.le_of_ble_eq_true rfl) rfl ?_
        refine ex_istore (q := 68) (lo' := [some (vr 8 l0), none, none, some (vi l3), some (vr 1 (gt h 39 (gt h 8 l0 2) (gt h 8 l0 3))), some (vi r8)]) dX8_perform_66 rfl (by decide) rfl rfl ?_
        refine ex_aload_n (q := 69) dX8_perform_68 rfl rfl ?_
        refine ex_get (q := 72) (v := vi (gt h8 8 l0 12)) 12 dX8_perform_69 rfl fl_X8_97 g2 rfl rfl ?_
        refine ex_if_eq (q := 75) (tgt := 84) dX8_perform_72 rfl (by decide) (fun c10 => ?_) (fun c10 => ?_)
        · have hF := ip c10 hF
          refine ex_iload (q := 86) dX8_perform_84 rfl rfl ?_
          refine ex_iconst (q := 87) dX8_perform_86 rfl ⟨by decide, by decide⟩ ?_
          refine ex_icmp_eq (q := 90) (tgt := 111) dX8_perform_87 rfl (by decide) (fun c11 => ?_) (fun c11 => ?_)
          · have hF := ip c11 hF
            exact ex_forget (lo' := [some (vr 8 l0), none, none, some (vi l3), some (vr 1 (gt h 39 (gt h 8 l0 2) (gt h 8 l0 3))), none]) ⟨Or.inr rfl, Or.inl rfl, Or.inl rfl, Or.inr rfl, Or.inr rfl, Or.inl rfl, trivial⟩ (x_X8_perform_111 hag21 hF)
          · have hF := im c11 hF
            refine ex_iload (q := 92) dX8_perform_90 rfl rfl ?_
            refine ex_bipush (q := 94) dX8_perform_92 rfl (by decide) ⟨by decide, by decide⟩ ?_
            refine ex_icmp_eq (q := 97) (tgt := 111) dX8_perform_94 rfl (by decide) (fun c12 => ?_) (fun c12 => ?_)
            · have hF := ip c12 hF
              exact ex_forget (lo' := [some (vr 8 l0), none, none, some (vi l3), some (vr 1 (gt h 39 (gt h 8 l0 2) (gt h 8 l0 3))), none]) ⟨Or.inr rfl, Or.inl rfl, Or.inl rfl, Or.inr rfl, Or.inr rfl, Or.inl rfl, trivial⟩ (x_X8_perform_111 hag21 hF)
            · have hF := im c12 hF
              refine ex_iload (q := 99) dX8_perform_97 rfl rfl ?_
              refine ex_bipush (q := 101) dX8_perform_99 rfl (by decide) ⟨by decide, by decide⟩ ?_
              refine ex_icmp_eq (q := 104) (tgt := 111) dX8_perform_101 rfl (by decide) (fun c13 => ?_) (fun c13 => ?_)
              · have hF := ip c13 hF
                exact ex_forget (lo' := [some (vr 8 l0), none, none, some (vi l3), some (vr 1 (gt h 39 (gt h 8 l0 2) (gt h 8 l0 3))), none]) ⟨Or.inr rfl, Or.inl rfl, Or.inl rfl, Or.inr rfl, Or.inr rfl, Or.inl rfl, trivial⟩ (x_X8_perform_111 hag21 hF)
              · have hF := im c13 hF
                refine ex_iload (q := 106) dX8_perform_104 rfl rfl ?_
                refine ex_bipush (q := 108) dX8_perform_106 rfl (by decide) ⟨by decide, by decide⟩ ?_
                refine ex_icmp_ne (q := 111) (tgt := 120) dX8_perform_108 rfl (by decide) (fun c14 => ?_) (fun c14 => ?_)
                · have hF := ip c14 hF
                  refine ex_aload_n (q := 121) dX8_perform_120 rfl rfl ?_
                  obtain ⟨r15, h15, e15, hF⟩ := zb_some hF
                  refine ex_callV (d' := 0) (q := 124) (as := []) (st1 := [vi r15]) (r := (some (vi r15))) (h2 := h15) dX8_perform_121 rfl (run_X8_step e15) mc_X8_step mv_X8_step ml_X8_118 (by decide) g2 rfl rfl (Nat.le_of_ble_eq_true rfl) rfl ?_
                  refine ex_if_eq (q := 127) (tgt := 135) dX8_perform_124 rfl (by decide) (fun c16 => ?_) (fun c16 => ?_)
                  · have hF := ip c16 hF
                    refine ex_iinc (q := 138) (lo' := [some (vr 8 l0), none, none, some (vi (wI (l3 + 1))), some (vr 1 (gt h 39 (gt h 8 l0 2) (gt h 8 l0 3))), some (vi r8)]) dX8_perform_135 rfl rfl (by decide) rfl rfl ?_
                    refine ex_goto (q := 21) dX8_perform_138 (by decide) ?_
                    exact ex_forget (lo' := [some (vr 8 l0), none, none, some (vi (wI (l3 + 1))), none, none]) ⟨Or.inr rfl, Or.inl rfl, Or.inl rfl, Or.inr rfl, Or.inl rfl, Or.inl rfl, trivial⟩ (hag21 _ _ _ _ _ hF)
                  · have hF := im c16 hF
                    refine ex_aload_n (q := 128) dX8_perform_127 rfl rfl ?_
                    refine ex_aload (q := 130) dX8_perform_128 rfl rfl ?_
                    refine ex_iload (q := 132) dX8_perform_130 rfl rfl ?_
                    obtain ⟨r17, h17, e17, hF⟩ := zb_some hF
                    refine ex_callV (d' := 5) (q := 135) (as := [vr 1 (gt h 39 (gt h 8 l0 2) (gt h 8 l0 3)), vi r8]) (st1 := []) (r := none) (h2 := h17) dX8_perform_132 rfl (run_X8_doLine e17) mc_X8_doLine mv_X8_doLine ml_X8_122 (by decide) g2 rfl rfl (Nat.le_of_ble_eq_true rfl) rfl ?_
                    refine ex_iinc (q := 138) (lo' := [some (vr 8 l0), none, none, some (vi (wI (l3 + 1))), some (vr 1 (gt h 39 (gt h 8 l0 2) (gt h 8 l0 3))), some (vi r8)]) dX8_perform_135 rfl rfl (by decide) rfl rfl ?_
                    refine ex_goto (q := 21) dX8_perform_138 (by decide) ?_
                    exact ex_forget (lo' := [some (vr 8 l0), none, none, some (vi (wI (l3 + 1))), none, none]) ⟨Or.inr rfl, Or.inl rfl, Or.inl rfl, Or.inr rfl, Or.inl rfl, Or.inl rfl, trivial⟩ (hag21 _ _ _ _ _ hF)
                · have hF := im c14 hF
                  exact ex_forget (lo' := [some (vr 8 l0), none, none, some (vi l3), some (vr 1 (gt h 39 (gt h 8 l0 2) (gt h 8 l0 3))), none]) ⟨Or.inr rfl, Or.inl rfl, Or.inl rfl, Or.inr rfl, Or.inr rfl, Or.inl rfl, trivial⟩ (x_X8_perform_111 hag21 hF)
        · have hF := im c10 hF
          refine ex_aload_n (q := 76) dX8_perform_75 rfl rfl ?_
          refine ex_aload (q := 78) dX8_perform_76 rfl rfl ?_
          obtain ⟨r18, h18, e18, hF⟩ := zb_some hF
          refine ex_callV (d' := 5) (q := 81) (as := [vr 1 (gt h 39 (gt h 8 l0 2) (gt h 8 l0 3))]) (st1 := []) (r := none) (h2 := h18) dX8_perform_78 rfl (run_X8_leave e18) mc_X8_leave mv_X8_leave ml_X8_111 (by decide) g2 rfl rfl (Nat.le_of_ble_eq_true rfl) rfl ?_
          refine ex_goto (q := 135) dX8_perform_81 (by decide) ?_
          refine ex_iinc (q := 138) (lo' := [some (vr 8 l0), none, none, some (vi (wI (l3 + 1))), some (vr 1 (gt h 39 (gt h 8 l0 2) (gt h 8 l0 3))), some (vi r8)]) dX8_perform_135 rfl rfl (by decide) rfl rfl ?_
          refine ex_goto (q := 21) dX8_perform_138 (by decide) ?_
          exact ex_forget (lo' := [some (vr 8 l0), none, none, some (vi (wI (l3 + 1))), none, none]) ⟨Or.inr rfl, Or.inl rfl, Or.inl rfl, Or.inr rfl, Or.inl rfl, Or.inl rfl, trivial⟩ (hag21 _ _ _ _ _ hF)
def F_X8_perform_21 : Nat → Int → Int → zH → zO
  | 0, _, _, _ => none
  | n + 1, l0, l3, h => F_X8_perform_21b (F_X8_perform_21 n) l0 l3 h
theorem x_X8_perform_21 : ∀ (n : Nat) (l0 l3 : Int) (h : zH) (r : Int) (h' : zH), F_X8_perform_21 n l0 l3 h = some (r, h') → Ex 6 M_X8_perform 21 [some (vr 8 l0), none, none, some (vi l3), none, none] [] h (fun r1 h1 => r1 = some (vi r) ∧ h1 = h')
  | 0, _, _, _, _, _, hF => by cases hF
  | n + 1, _, _, _, _, _, hF => x_X8_perform_21b (x_X8_perform_21 n) hF
def F_X8_perform_0 (l0 l1 l2 : Int) (h : zH) : zO := if 0 ≤ l0 then (zb (F_X8_reset l0 l2 h) (fun r1 h1 => zb (F_X11_findScript (gt h1 8 l0 1) l1 h1) (fun r3 h3 => zb (F_X8_enter l0 r3 l1 (-1) h3) (fun r4 h4 => F_X8_perform_21 zF l0 0 h4)))) else none
set_option maxHeartbeats 1000000 in
theorem x_X8_perform_0 {l0 l1 l2 : Int} {h : zH} {r : Int} {h' : zH} (hF : F_X8_perform_0 l0 l1 l2 h = some (r, h')) : Ex 6 M_X8_perform 0 [some (vr 8 l0), some (vi l1), some (vi l2), none, none, none] [] h (fun r1 h1 => r1 = some (vi r) ∧ h1 = h') := by
  unfold F_X8_perform_0 at hF
  refine ex_aload_n (q := 1) dX8_perform_0 rfl rfl ?_
  refine ex_iload_n (q := 2) dX8_perform_1 rfl rfl ?_
  obtain ⟨g2, hF⟩ := zg hF
  obtain ⟨r1, h1, e1, hF⟩ := zb_some hF
  refine ex_callV (d' := 0) (q := 5) (as := [vi l2]) (st1 := []) (r := none) (h2 := h1) dX8_perform_2 rfl (run_X8_reset e1) mc_X8_reset mv_X8_reset ml_X8_81 (by decide) g2 rfl rfl (Nat.le_of_ble_eq_true rfl) rfl ?_
  refine ex_aload_n (q := 6) dX8_perform_5 rfl rfl ?_
  refine ex_aload_n (q := 7) dX8_perform_6 rfl rfl ?_
  refine ex_get (q := 10) (v := vr 49 (gt h1 8 l0 1)) 1 dX8_perform_7 rfl fl_X8_50 g2 rfl rfl ?_
  refine ex_iload_n (q := 11) dX8_perform_10 rfl rfl ?_
  obtain ⟨r3, h3, e3, hF⟩ := zb_some hF
  refine ex_callS (d' := 1) (q := 14) (as := [vr 49 (gt h1 8 l0 1), vi l1]) (st1 := [vr 10 r3, vr 8 l0]) (r := (some (vr 10 r3))) (h2 := h3) dX8_perform_11 rfl (run_X11_findScript e3) mc_X11_findScript ms_X11_findScript ml_X8_85 (by decide) rfl rfl (Nat.le_of_ble_eq_true rfl) rfl ?_
  refine ex_iload_n (q := 15) dX8_perform_14 rfl rfl ?_
  refine ex_null (q := 16) 4 dX8_perform_15 rfl ?_
  obtain ⟨r4, h4, e4, hF⟩ := zb_some hF
  refine ex_callV (d' := 2) (q := 19) (as := [vr 10 r3, vi l1, vr 4 (-1)]) (st1 := []) (r := none) (h2 := h4) dX8_perform_16 rfl (run_X8_enter e4) mc_X8_enter mv_X8_enter ml_X8_89 (by decide) g2 rfl rfl (Nat.le_of_ble_eq_true rfl) rfl ?_
  refine ex_iconst (q := 20) dX8_perform_19 rfl ⟨by decide, by decide⟩ ?_
  refine ex_istore_n (q := 21) (lo' := [some (vr 8 l0), some (vi l1), some (vi l2), some (vi 0), none, none]) dX8_perform_20 rfl (by decide) rfl rfl ?_
  exact ex_forget (lo' := [some (vr 8 l0), none, none, some (vi 0), none, none]) ⟨Or.inr rfl, Or.inl rfl, Or.inl rfl, Or.inr rfl, Or.inl rfl, Or.inl rfl, trivial⟩ (x_X8_perform_21 _ _ _ _ _ _ hF)
def F_X8_perform (l0 l1 l2 : Int) (h : zH) : zO := F_X8_perform_0 l0 l1 l2 h
theorem run_X8_perform {l0 l1 l2 : Int} {h : zH} {r : Int} {h' : zH} (hF : F_X8_perform l0 l1 l2 h = some (r, h')) : Run 6 yX8_perform cX8_perform 6 (some .int) [vr 8 l0, vi l1, vi l2] h (some (vi r)) h' := run_of (M := M_X8_perform) (by decide) rfl (fun z => by cases z) (Nat.le_of_ble_eq_true rfl) (x_X8_perform_0 hF)
abbrev M_X11_run : zM := (RX11, (cX11_run, (4, ((some .int), false))))
def F_X11_run_0 (l0 l1 l2 : Int) (h : zH) : zO := if 0 ≤ l0 then (zb (F_X11_findScript (gt h 11 l0 1) l1 h) (fun r2 h2 => if r2 = -1 then (some ((-101), h2)) else (zb (F_X11_within l2 8 h2) (fun r4 h4 => if r4 ≠ 0 then (if 0 ≤ r2 then (zb (F_X10_faultNumber r2 h4) (fun r6 h6 => if r6 ≠ 0 then (some ((-103), h6)) else (if 0 ≤ gt h6 11 l0 3 then (zb (F_X8_perform (gt h6 11 l0 3) l1 l2 h6) (fun r9 h9 => some (r9, h9))) else none))) else none) else (some ((-101), h4)))))) else none
set_option maxHeartbeats 1000000 in
theorem x_X11_run_0 {l0 l1 l2 : Int} {h : zH} {r : Int} {h' : zH} (hF : F_X11_run_0 l0 l1 l2 h = some (r, h')) : Ex 7 M_X11_run 0 [some (vr 11 l0), some (vi l1), some (vi l2), none] [] h (fun r1 h1 => r1 = some (vi r) ∧ h1 = h') := by
  unfold F_X11_run_0 at hF
  refine ex_aload_n (q := 1) dX11_run_0 rfl rfl ?_
  obtain ⟨g1, hF⟩ := zg hF
  refine ex_get (q := 4) (v := vr 49 (gt h 11 l0 1)) 1 dX11_run_1 rfl fl_X11_18 g1 rfl rfl ?_
  refine ex_iload_n (q := 5) dX11_run_4 rfl rfl ?_
  obtain ⟨r2, h2, e2, hF⟩ := zb_some hF
  refine ex_callS (d' := 1) (q := 8) (as := [vr 49 (gt h 11 l0 1), vi l1]) (st1 := [vr 10 r2]) (r := (some (vr 10 r2))) (h2 := h2) dX11_run_5 rfl (run_X11_findScript e2) mc_X11_findScript ms_X11_findScript ml_X11_74 (by decide) rfl rfl (Nat.le_of_ble_eq_true rfl) rfl ?_
  refine ex_astore_n (q := 9) (lo' := [some (vr 11 l0), some (vi l1), some (vi l2), some (vr 10 r2)]) dX11_run_8 rfl (by decide) rfl rfl ?_
  refine ex_aload_n (q := 10) dX11_run_9 rfl rfl ?_
  refine ex_ifnull (q := 13) (tgt := 22) dX11_run_10 rfl (by decide) (fun c3 => ?_) (fun c3 => ?_)
  · have hF := ip c3 hF
    refine ex_bipush (q := 24) dX11_run_22 rfl (by decide) ⟨by decide, by decide⟩ ?_
    obtain ⟨rfl, rfl⟩ := zr hF
    exact ex_ret (some (vi (-101))) rfl ⟨dX11_run_24, Or.inl rfl⟩ ⟨rfl, rfl⟩
  · have hF := im c3 hF
    refine ex_iload_n (q := 14) dX11_run_13 rfl rfl ?_
    refine ex_bipush (q := 16) dX11_run_14 rfl (by decide) ⟨by decide, by decide⟩ ?_
    obtain ⟨r4, h4, e4, hF⟩ := zb_some hF
    refine ex_callS (d' := 0) (q := 19) (as := [vi l2, vi 8]) (st1 := [vi r4]) (r := (some (vi r4))) (h2 := h4) dX11_run_16 rfl (run_X11_within e4) mc_X11_within ms_X11_within ml_X11_31 (by decide) rfl rfl (Nat.le_of_ble_eq_true rfl) rfl ?_
    refine ex_if_ne (q := 22) (tgt := 25) dX11_run_19 rfl (by decide) (fun c5 => ?_) (fun c5 => ?_)
    · have hF := ip c5 hF
      refine ex_aload_n (q := 26) dX11_run_25 rfl rfl ?_
      obtain ⟨g7, hF⟩ := zg hF
      obtain ⟨r6, h6, e6, hF⟩ := zb_some hF
      refine ex_callV (d' := 0) (q := 29) (as := []) (st1 := [vi r6]) (r := (some (vi r6))) (h2 := h6) dX11_run_26 rfl (run_X10_faultNumber e6) mc_X10_faultNumber mv_X10_faultNumber ml_X11_83 (by decide) g7 rfl rfl (Nat.le_of_ble_eq_true rfl) rfl ?_
      refine ex_if_ne (q := 32) (tgt := 44) dX11_run_29 rfl (by decide) (fun c8 => ?_) (fun c8 => ?_)
      · have hF := ip c8 hF
        refine ex_bipush (q := 46) dX11_run_44 rfl (by decide) ⟨by decide, by decide⟩ ?_
        obtain ⟨rfl, rfl⟩ := zr hF
        exact ex_ret (some (vi (-103))) rfl ⟨dX11_run_46, Or.inl rfl⟩ ⟨rfl, rfl⟩
      · have hF := im c8 hF
        refine ex_aload_n (q := 33) dX11_run_32 rfl rfl ?_
        refine ex_get (q := 36) (v := vr 8 (gt h6 11 l0 3)) 3 dX11_run_33 rfl fl_X11_27 g1 rfl rfl ?_
        refine ex_iload_n (q := 37) dX11_run_36 rfl rfl ?_
        refine ex_iload_n (q := 38) dX11_run_37 rfl rfl ?_
        obtain ⟨g10, hF⟩ := zg hF
        obtain ⟨r9, h9, e9, hF⟩ := zb_some hF
        refine ex_callV (d' := 6) (q := 41) (as := [vi l1, vi l2]) (st1 := [vi r9]) (r := (some (vi r9))) (h2 := h9) dX11_run_38 rfl (run_X8_perform e9) mc_X8_perform mv_X8_perform ml_X11_89 (by decide) g10 rfl rfl (Nat.le_of_ble_eq_true rfl) rfl ?_
        refine ex_goto (q := 46) dX11_run_41 (by decide) ?_
        obtain ⟨rfl, rfl⟩ := zr hF
        exact ex_ret (some (vi r9)) rfl ⟨dX11_run_46, Or.inl rfl⟩ ⟨rfl, rfl⟩
    · have hF := im c5 hF
      refine ex_bipush (q := 24) dX11_run_22 rfl (by decide) ⟨by decide, by decide⟩ ?_
      obtain ⟨rfl, rfl⟩ := zr hF
      exact ex_ret (some (vi (-101))) rfl ⟨dX11_run_24, Or.inl rfl⟩ ⟨rfl, rfl⟩
def F_X11_run (l0 l1 l2 : Int) (h : zH) : zO := F_X11_run_0 l0 l1 l2 h
theorem run_X11_run {l0 l1 l2 : Int} {h : zH} {r : Int} {h' : zH} (hF : F_X11_run l0 l1 l2 h = some (r, h')) : Run 7 yX11_run cX11_run 4 (some .int) [vr 11 l0, vi l1, vi l2] h (some (vi r)) h' := run_of (M := M_X11_run) (by decide) rfl (fun z => by cases z) (Nat.le_of_ble_eq_true rfl) (x_X11_run_0 hF)
abbrev M_X8_told : zM := (RX8, (cX8_told, (2, ((some .int), false))))
def F_X8_told_0 (l0 l1 : Int) (h : zH) : zO := if l1 = 0 then (if 0 ≤ l0 then (some (gt h 8 l0 17, h)) else none) else (if l1 = 1 then (if 0 ≤ l0 then (some (gt h 8 l0 14, h)) else none) else (if l1 = 2 then (if 0 ≤ l0 then (if 0 ≤ gt h 8 l0 10 then (some (gt h 2 (gt h 8 l0 10) 6, h)) else none) else none) else (if l1 = 3 then (if 0 ≤ l0 then (some (gt h 8 l0 9, h)) else none) else (if l1 = 4 then (if 0 ≤ l0 then (some (gt h 8 l0 15, h)) else none) else (if l1 = 5 then (if 0 ≤ l0 then (some (gt h 8 l0 16, h)) else none) else (if 0 ≤ l0 then (if gt h 8 l0 17 ≠ 1 then (some ((-1), h)) else (some (gt h 8 l0 13, h))) else none))))))
set_option maxHeartbeats 1000000 in
theorem x_X8_told_0 {l0 l1 : Int} {h : zH} {r : Int} {h' : zH} (hF : F_X8_told_0 l0 l1 h = some (r, h')) : Ex 0 M_X8_told 0 [some (vr 8 l0), some (vi l1)] [] h (fun r1 h1 => r1 = some (vi r) ∧ h1 = h') := by
  unfold F_X8_told_0 at hF
  refine ex_iload_n (q := 1) dX8_told_0 rfl rfl ?_
  by_cases c1 : l1 = 0
  · have hF := ip c1 hF
    refine ex_tsw 0 (tgt := 40) dX8_told_1 c1 (by decide) (by decide) rfl (by decide) ?_
    refine ex_aload_n (q := 41) dX8_told_40 rfl rfl ?_
    obtain ⟨g2, hF⟩ := zg hF
    refine ex_get (q := 44) (v := vi (gt h 8 l0 17)) 17 dX8_told_41 rfl fl_X8_63 g2 rfl rfl ?_
    obtain ⟨rfl, rfl⟩ := zr hF
    exact ex_ret (some (vi (gt h 8 l0 17))) rfl ⟨dX8_told_44, Or.inl rfl⟩ ⟨rfl, rfl⟩
  · have hF := im c1 hF
    by_cases c3 : l1 = 1
    · have hF := ip c3 hF
      refine ex_tsw 1 (tgt := 45) dX8_told_1 c3 (by decide) (by decide) rfl (by decide) ?_
      refine ex_aload_n (q := 46) dX8_told_45 rfl rfl ?_
      obtain ⟨g4, hF⟩ := zg hF
      refine ex_get (q := 49) (v := vi (gt h 8 l0 14)) 14 dX8_told_46 rfl fl_X8_66 g4 rfl rfl ?_
      obtain ⟨rfl, rfl⟩ := zr hF
      exact ex_ret (some (vi (gt h 8 l0 14))) rfl ⟨dX8_told_49, Or.inl rfl⟩ ⟨rfl, rfl⟩
    · have hF := im c3 hF
      by_cases c5 : l1 = 2
      · have hF := ip c5 hF
        refine ex_tsw 2 (tgt := 50) dX8_told_1 c5 (by decide) (by decide) rfl (by decide) ?_
        refine ex_aload_n (q := 51) dX8_told_50 rfl rfl ?_
        obtain ⟨g6, hF⟩ := zg hF
        refine ex_get (q := 54) (v := vr 2 (gt h 8 l0 10)) 10 dX8_told_51 rfl fl_X8_38 g6 rfl rfl ?_
        obtain ⟨g7, hF⟩ := zg hF
        refine ex_get (q := 57) (v := vi (gt h 2 (gt h 8 l0 10) 6)) 6 dX8_told_54 rfl fl_X8_69 g7 rfl rfl ?_
        obtain ⟨rfl, rfl⟩ := zr hF
        exact ex_ret (some (vi (gt h 2 (gt h 8 l0 10) 6))) rfl ⟨dX8_told_57, Or.inl rfl⟩ ⟨rfl, rfl⟩
      · have hF := im c5 hF
        by_cases c8 : l1 = 3
        · have hF := ip c8 hF
          refine ex_tsw 3 (tgt := 58) dX8_told_1 c8 (by decide) (by decide) rfl (by decide) ?_
          refine ex_aload_n (q := 59) dX8_told_58 rfl rfl ?_
          obtain ⟨g9, hF⟩ := zg hF
          refine ex_get (q := 62) (v := vi (gt h 8 l0 9)) 9 dX8_told_59 rfl fl_X8_72 g9 rfl rfl ?_
          obtain ⟨rfl, rfl⟩ := zr hF
          exact ex_ret (some (vi (gt h 8 l0 9))) rfl ⟨dX8_told_62, Or.inl rfl⟩ ⟨rfl, rfl⟩
        · have hF := im c8 hF
          by_cases c10 : l1 = 4
          · have hF := ip c10 hF
            refine ex_tsw 4 (tgt := 63) dX8_told_1 c10 (by decide) (by decide) rfl (by decide) ?_
            refine ex_aload_n (q := 64) dX8_told_63 rfl rfl ?_
            obtain ⟨g11, hF⟩ := zg hF
            refine ex_get (q := 67) (v := vi (gt h 8 l0 15)) 15 dX8_told_64 rfl fl_X8_75 g11 rfl rfl ?_
            obtain ⟨rfl, rfl⟩ := zr hF
            exact ex_ret (some (vi (gt h 8 l0 15))) rfl ⟨dX8_told_67, Or.inl rfl⟩ ⟨rfl, rfl⟩
          · have hF := im c10 hF
            by_cases c12 : l1 = 5
            · have hF := ip c12 hF
              refine ex_tsw 5 (tgt := 68) dX8_told_1 c12 (by decide) (by decide) rfl (by decide) ?_
              refine ex_aload_n (q := 69) dX8_told_68 rfl rfl ?_
              obtain ⟨g13, hF⟩ := zg hF
              refine ex_get (q := 72) (v := vi (gt h 8 l0 16)) 16 dX8_told_69 rfl fl_X8_78 g13 rfl rfl ?_
              obtain ⟨rfl, rfl⟩ := zr hF
              exact ex_ret (some (vi (gt h 8 l0 16))) rfl ⟨dX8_told_72, Or.inl rfl⟩ ⟨rfl, rfl⟩
            · have hF := im c12 hF
              refine ex_tswD (tgt := 73) dX8_told_1 (by omega) (by decide) ?_
              refine ex_aload_n (q := 74) dX8_told_73 rfl rfl ?_
              obtain ⟨g14, hF⟩ := zg hF
              refine ex_get (q := 77) (v := vi (gt h 8 l0 17)) 17 dX8_told_74 rfl fl_X8_63 g14 rfl rfl ?_
              refine ex_iconst (q := 78) dX8_told_77 rfl ⟨by decide, by decide⟩ ?_
              refine ex_icmp_ne (q := 81) (tgt := 88) dX8_told_78 rfl (by decide) (fun c15 => ?_) (fun c15 => ?_)
              · have hF := ip c15 hF
                refine ex_iconst (q := 89) dX8_told_88 rfl ⟨by decide, by decide⟩ ?_
                obtain ⟨rfl, rfl⟩ := zr hF
                exact ex_ret (some (vi (-1))) rfl ⟨dX8_told_89, Or.inl rfl⟩ ⟨rfl, rfl⟩
              · have hF := im c15 hF
                refine ex_aload_n (q := 82) dX8_told_81 rfl rfl ?_
                refine ex_get (q := 85) (v := vi (gt h 8 l0 13)) 13 dX8_told_82 rfl fl_X8_42 g14 rfl rfl ?_
                refine ex_goto (q := 89) dX8_told_85 (by decide) ?_
                obtain ⟨rfl, rfl⟩ := zr hF
                exact ex_ret (some (vi (gt h 8 l0 13))) rfl ⟨dX8_told_89, Or.inl rfl⟩ ⟨rfl, rfl⟩
def F_X8_told (l0 l1 : Int) (h : zH) : zO := F_X8_told_0 l0 l1 h
theorem run_X8_told {l0 l1 : Int} {h : zH} {r : Int} {h' : zH} (hF : F_X8_told l0 l1 h = some (r, h')) : Run 0 yX8_told cX8_told 2 (some .int) [vr 8 l0, vi l1] h (some (vi r)) h' := run_of (M := M_X8_told) (by decide) rfl (fun z => by cases z) (Nat.le_of_ble_eq_true rfl) (x_X8_told_0 hF)
abbrev M_X11_ran : zM := (RX11, (cX11_ran, (2, ((some .int), false))))
def F_X11_ran_0 (l0 l1 : Int) (h : zH) : zO := zb (F_X11_within l1 7 h) (fun r1 h1 => if r1 = 0 then (some ((-102), h1)) else (if 0 ≤ l0 then (if 0 ≤ gt h1 11 l0 3 then (zb (F_X8_told (gt h1 11 l0 3) l1 h1) (fun r4 h4 => some (r4, h4))) else none) else none))
set_option maxHeartbeats 1000000 in
theorem x_X11_ran_0 {l0 l1 : Int} {h : zH} {r : Int} {h' : zH} (hF : F_X11_ran_0 l0 l1 h = some (r, h')) : Ex 1 M_X11_ran 0 [some (vr 11 l0), some (vi l1)] [] h (fun r1 h1 => r1 = some (vi r) ∧ h1 = h') := by
  unfold F_X11_ran_0 at hF
  refine ex_iload_n (q := 1) dX11_ran_0 rfl rfl ?_
  refine ex_bipush (q := 3) dX11_ran_1 rfl (by decide) ⟨by decide, by decide⟩ ?_
  obtain ⟨r1, h1, e1, hF⟩ := zb_some hF
  refine ex_callS (d' := 0) (q := 6) (as := [vi l1, vi 7]) (st1 := [vi r1]) (r := (some (vi r1))) (h2 := h1) dX11_ran_3 rfl (run_X11_within e1) mc_X11_within ms_X11_within ml_X11_31 (by decide) rfl rfl (Nat.le_of_ble_eq_true rfl) rfl ?_
  refine ex_if_eq (q := 9) (tgt := 20) dX11_ran_6 rfl (by decide) (fun c2 => ?_) (fun c2 => ?_)
  · have hF := ip c2 hF
    refine ex_bipush (q := 22) dX11_ran_20 rfl (by decide) ⟨by decide, by decide⟩ ?_
    obtain ⟨rfl, rfl⟩ := zr hF
    exact ex_ret (some (vi (-102))) rfl ⟨dX11_ran_22, Or.inl rfl⟩ ⟨rfl, rfl⟩
  · have hF := im c2 hF
    refine ex_aload_n (q := 10) dX11_ran_9 rfl rfl ?_
    obtain ⟨g3, hF⟩ := zg hF
    refine ex_get (q := 13) (v := vr 8 (gt h1 11 l0 3)) 3 dX11_ran_10 rfl fl_X11_27 g3 rfl rfl ?_
    refine ex_iload_n (q := 14) dX11_ran_13 rfl rfl ?_
    obtain ⟨g5, hF⟩ := zg hF
    obtain ⟨r4, h4, e4, hF⟩ := zb_some hF
    refine ex_callV (d' := 0) (q := 17) (as := [vi l1]) (st1 := [vi r4]) (r := (some (vi r4))) (h2 := h4) dX11_ran_14 rfl (run_X8_told e4) mc_X8_told mv_X8_told ml_X11_92 (by decide) g5 rfl rfl (Nat.le_of_ble_eq_true rfl) rfl ?_
    refine ex_goto (q := 22) dX11_ran_17 (by decide) ?_
    obtain ⟨rfl, rfl⟩ := zr hF
    exact ex_ret (some (vi r4)) rfl ⟨dX11_ran_22, Or.inl rfl⟩ ⟨rfl, rfl⟩
def F_X11_ran (l0 l1 : Int) (h : zH) : zO := F_X11_ran_0 l0 l1 h
theorem run_X11_ran {l0 l1 : Int} {h : zH} {r : Int} {h' : zH} (hF : F_X11_ran l0 l1 h = some (r, h')) : Run 1 yX11_ran cX11_ran 2 (some .int) [vr 11 l0, vi l1] h (some (vi r)) h' := run_of (M := M_X11_ran) (by decide) rfl (fun z => by cases z) (Nat.le_of_ble_eq_true rfl) (x_X11_ran_0 hF)
abbrev M_X2_told : zM := (RX2, (cX2_told, (3, ((some .int), false))))
def F_X2_told_0 (l0 l1 l2 : Int) (h : zH) : zO := if 0 ≤ l0 then (zb (F_X11_within l1 (gt h 2 l0 6) h) (fun r2 h2 => if r2 ≠ 0 then (if l2 = 0 then (if 0 ≤ gt h2 2 l0 0 then (if 0 ≤ l1 ∧ l1 < 16 then (some (gt h2 21 (gt h2 2 l0 0) l1, h2)) else none) else none) else (if l2 = 1 then (if 0 ≤ gt h2 2 l0 1 then (if 0 ≤ l1 ∧ l1 < 16 then (some (gt h2 22 (gt h2 2 l0 1) l1, h2)) else none) else none) else (if l2 = 2 then (if 0 ≤ gt h2 2 l0 2 then (if 0 ≤ l1 ∧ l1 < 16 then (some (gt h2 23 (gt h2 2 l0 2) l1, h2)) else none) else none) else (if l2 = 3 then (if 0 ≤ gt h2 2 l0 3 then (if 0 ≤ l1 ∧ l1 < 16 then (some (gt h2 24 (gt h2 2 l0 3) l1, h2)) else none) else none) else (if l2 = 4 then (if 0 ≤ gt h2 2 l0 4 then (if 0 ≤ l1 ∧ l1 < 16 then (some (gt h2 25 (gt h2 2 l0 4) l1, h2)) else none) else none) else (if 0 ≤ gt h2 2 l0 5 then (if 0 ≤ l1 ∧ l1 < 16 then (some (gt h2 26 (gt h2 2 l0 5) l1, h2)) else none) else none)))))) else (some ((-1), h2)))) else none
set_option maxHeartbeats 1000000 in
theorem x_X2_told_0 {l0 l1 l2 : Int} {h : zH} {r : Int} {h' : zH} (hF : F_X2_told_0 l0 l1 l2 h = some (r, h')) : Ex 1 M_X2_told 0 [some (vr 2 l0), some (vi l1), some (vi l2)] [] h (fun r1 h1 => r1 = some (vi r) ∧ h1 = h') := by
  unfold F_X2_told_0 at hF
  refine ex_iload_n (q := 1) dX2_told_0 rfl rfl ?_
  refine ex_aload_n (q := 2) dX2_told_1 rfl rfl ?_
  obtain ⟨g1, hF⟩ := zg hF
  refine ex_get (q := 5) (v := vi (gt h 2 l0 6)) 6 dX2_told_2 rfl fl_X2_30 g1 rfl rfl ?_
  obtain ⟨r2, h2, e2, hF⟩ := zb_some hF
  refine ex_callS (d' := 0) (q := 8) (as := [vi l1, vi (gt h 2 l0 6)]) (st1 := [vi r2]) (r := (some (vi r2))) (h2 := h2) dX2_told_5 rfl (run_X11_within e2) mc_X11_within ms_X11_within ml_X2_34 (by decide) rfl rfl (Nat.le_of_ble_eq_true rfl) rfl ?_
  refine ex_if_ne (q := 11) (tgt := 13) dX2_told_8 rfl (by decide) (fun c3 => ?_) (fun c3 => ?_)
  · have hF := ip c3 hF
    refine ex_iload_n (q := 14) dX2_told_13 rfl rfl ?_
    by_cases c4 : l2 = 0
    · have hF := ip c4 hF
      refine ex_tsw 0 (tgt := 48) dX2_told_14 c4 (by decide) (by decide) rfl (by decide) ?_
      refine ex_aload_n (q := 49) dX2_told_48 rfl rfl ?_
      refine ex_get (q := 52) (v := vr 21 (gt h2 2 l0 0)) 0 dX2_told_49 rfl fl_X2_9 g1 rfl rfl ?_
      refine ex_iload_n (q := 53) dX2_told_52 rfl rfl ?_
      obtain ⟨g5, hF⟩ := zg hF
      obtain ⟨g6, hF⟩ := zg hF
      refine ex_iald (q := 54) dX2_told_53 rfl kd_21 g5 g6.1 g6.2 ?_
      obtain ⟨rfl, rfl⟩ := zr hF
      exact ex_ret (some (vi (gt h2 21 (gt h2 2 l0 0) l1))) rfl ⟨dX2_told_54, Or.inl rfl⟩ ⟨rfl, rfl⟩
    · have hF := im c4 hF
      by_cases c7 : l2 = 1
      · have hF := ip c7 hF
        refine ex_tsw 1 (tgt := 55) dX2_told_14 c7 (by decide) (by decide) rfl (by decide) ?_
        refine ex_aload_n (q := 56) dX2_told_55 rfl rfl ?_
        refine ex_get (q := 59) (v := vr 22 (gt h2 2 l0 1)) 1 dX2_told_56 rfl fl_X2_15 g1 rfl rfl ?_
        refine ex_iload_n (q := 60) dX2_told_59 rfl rfl ?_
        obtain ⟨g8, hF⟩ := zg hF
        obtain ⟨g9, hF⟩ := zg hF
        refine ex_iald (q := 61) dX2_told_60 rfl kd_22 g8 g9.1 g9.2 ?_
        obtain ⟨rfl, rfl⟩ := zr hF
        exact ex_ret (some (vi (gt h2 22 (gt h2 2 l0 1) l1))) rfl ⟨dX2_told_61, Or.inl rfl⟩ ⟨rfl, rfl⟩
      · have hF := im c7 hF
        by_cases c10 : l2 = 2
        · have hF := ip c10 hF
          refine ex_tsw 2 (tgt := 62) dX2_told_14 c10 (by decide) (by decide) rfl (by decide) ?_
          refine ex_aload_n (q := 63) dX2_told_62 rfl rfl ?_
          refine ex_get (q := 66) (v := vr 23 (gt h2 2 l0 2)) 2 dX2_told_63 rfl fl_X2_18 g1 rfl rfl ?_
          refine ex_iload_n (q := 67) dX2_told_66 rfl rfl ?_
          obtain ⟨g11, hF⟩ := zg hF
          obtain ⟨g12, hF⟩ := zg hF
          refine ex_iald (q := 68) dX2_told_67 rfl kd_23 g11 g12.1 g12.2 ?_
          obtain ⟨rfl, rfl⟩ := zr hF
          exact ex_ret (some (vi (gt h2 23 (gt h2 2 l0 2) l1))) rfl ⟨dX2_told_68, Or.inl rfl⟩ ⟨rfl, rfl⟩
        · have hF := im c10 hF
          by_cases c13 : l2 = 3
          · have hF := ip c13 hF
            refine ex_tsw 3 (tgt := 69) dX2_told_14 c13 (by decide) (by decide) rfl (by decide) ?_
            refine ex_aload_n (q := 70) dX2_told_69 rfl rfl ?_
            refine ex_get (q := 73) (v := vr 24 (gt h2 2 l0 3)) 3 dX2_told_70 rfl fl_X2_21 g1 rfl rfl ?_
            refine ex_iload_n (q := 74) dX2_told_73 rfl rfl ?_
            obtain ⟨g14, hF⟩ := zg hF
            obtain ⟨g15, hF⟩ := zg hF
            refine ex_iald (q := 75) dX2_told_74 rfl kd_24 g14 g15.1 g15.2 ?_
            obtain ⟨rfl, rfl⟩ := zr hF
            exact ex_ret (some (vi (gt h2 24 (gt h2 2 l0 3) l1))) rfl ⟨dX2_told_75, Or.inl rfl⟩ ⟨rfl, rfl⟩
          · have hF := im c13 hF
            by_cases c16 : l2 = 4
            · have hF := ip c16 hF
              refine ex_tsw 4 (tgt := 76) dX2_told_14 c16 (by decide) (by decide) rfl (by decide) ?_
              refine ex_aload_n (q := 77) dX2_told_76 rfl rfl ?_
              refine ex_get (q := 80) (v := vr 25 (gt h2 2 l0 4)) 4 dX2_told_77 rfl fl_X2_24 g1 rfl rfl ?_
              refine ex_iload_n (q := 81) dX2_told_80 rfl rfl ?_
              obtain ⟨g17, hF⟩ := zg hF
              obtain ⟨g18, hF⟩ := zg hF
              refine ex_iald (q := 82) dX2_told_81 rfl kd_25 g17 g18.1 g18.2 ?_
              obtain ⟨rfl, rfl⟩ := zr hF
              exact ex_ret (some (vi (gt h2 25 (gt h2 2 l0 4) l1))) rfl ⟨dX2_told_82, Or.inl rfl⟩ ⟨rfl, rfl⟩
            · have hF := im c16 hF
              refine ex_tswD (tgt := 83) dX2_told_14 (by omega) (by decide) ?_
              refine ex_aload_n (q := 84) dX2_told_83 rfl rfl ?_
              refine ex_get (q := 87) (v := vr 26 (gt h2 2 l0 5)) 5 dX2_told_84 rfl fl_X2_27 g1 rfl rfl ?_
              refine ex_iload_n (q := 88) dX2_told_87 rfl rfl ?_
              obtain ⟨g19, hF⟩ := zg hF
              obtain ⟨g20, hF⟩ := zg hF
              refine ex_iald (q := 89) dX2_told_88 rfl kd_26 g19 g20.1 g20.2 ?_
              obtain ⟨rfl, rfl⟩ := zr hF
              exact ex_ret (some (vi (gt h2 26 (gt h2 2 l0 5) l1))) rfl ⟨dX2_told_89, Or.inl rfl⟩ ⟨rfl, rfl⟩
  · have hF := im c3 hF
    refine ex_iconst (q := 12) dX2_told_11 rfl ⟨by decide, by decide⟩ ?_
    obtain ⟨rfl, rfl⟩ := zr hF
    exact ex_ret (some (vi (-1))) rfl ⟨dX2_told_12, Or.inl rfl⟩ ⟨rfl, rfl⟩
def F_X2_told (l0 l1 l2 : Int) (h : zH) : zO := F_X2_told_0 l0 l1 l2 h
theorem run_X2_told {l0 l1 l2 : Int} {h : zH} {r : Int} {h' : zH} (hF : F_X2_told l0 l1 l2 h = some (r, h')) : Run 1 yX2_told cX2_told 3 (some .int) [vr 2 l0, vi l1, vi l2] h (some (vi r)) h' := run_of (M := M_X2_told) (by decide) rfl (fun z => by cases z) (Nat.le_of_ble_eq_true rfl) (x_X2_told_0 hF)
abbrev M_X11_failure : zM := (RX11, (cX11_failure, (3, ((some .int), false))))
def F_X11_failure_0 (l0 l1 l2 : Int) (h : zH) : zO := if 0 ≤ l0 then (if 0 ≤ gt h 11 l0 3 then (if 0 ≤ gt h 8 (gt h 11 l0 3) 10 then (zb (F_X11_within l1 (gt h 2 (gt h 8 (gt h 11 l0 3) 10) 6) h) (fun r4 h4 => if r4 ≠ 0 then (zb (F_X11_within l2 6 h4) (fun r6 h6 => if r6 = 0 then (some ((-102), h6)) else (if 0 ≤ gt h6 11 l0 3 then (if 0 ≤ gt h6 8 (gt h6 11 l0 3) 10 then (zb (F_X2_told (gt h6 8 (gt h6 11 l0 3) 10) l1 l2 h6) (fun r9 h9 => some (r9, h9))) else none) else none))) else (some ((-101), h4)))) else none) else none) else none
set_option maxHeartbeats 1000000 in
theorem x_X11_failure_0 {l0 l1 l2 : Int} {h : zH} {r : Int} {h' : zH} (hF : F_X11_failure_0 l0 l1 l2 h = some (r, h')) : Ex 2 M_X11_failure 0 [some (vr 11 l0), some (vi l1), some (vi l2)] [] h (fun r1 h1 => r1 = some (vi r) ∧ h1 = h') := by
  unfold F_X11_failure_0 at hF
  refine ex_iload_n (q := 1) dX11_failure_0 rfl rfl ?_
  refine ex_aload_n (q := 2) dX11_failure_1 rfl rfl ?_
  obtain ⟨g1, hF⟩ := zg hF
  refine ex_get (q := 5) (v := vr 8 (gt h 11 l0 3)) 3 dX11_failure_2 rfl fl_X11_27 g1 rfl rfl ?_
  obtain ⟨g2, hF⟩ := zg hF
  refine ex_get (q := 8) (v := vr 2 (gt h 8 (gt h 11 l0 3) 10)) 10 dX11_failure_5 rfl fl_X11_95 g2 rfl rfl ?_
  obtain ⟨g3, hF⟩ := zg hF
  refine ex_get (q := 11) (v := vi (gt h 2 (gt h 8 (gt h 11 l0 3) 10) 6)) 6 dX11_failure_8 rfl fl_X11_99 g3 rfl rfl ?_
  obtain ⟨r4, h4, e4, hF⟩ := zb_some hF
  refine ex_callS (d' := 0) (q := 14) (as := [vi l1, vi (gt h 2 (gt h 8 (gt h 11 l0 3) 10) 6)]) (st1 := [vi r4]) (r := (some (vi r4))) (h2 := h4) dX11_failure_11 rfl (run_X11_within e4) mc_X11_within ms_X11_within ml_X11_31 (by decide) rfl rfl (Nat.le_of_ble_eq_true rfl) rfl ?_
  refine ex_if_ne (q := 17) (tgt := 20) dX11_failure_14 rfl (by decide) (fun c5 => ?_) (fun c5 => ?_)
  · have hF := ip c5 hF
    refine ex_iload_n (q := 21) dX11_failure_20 rfl rfl ?_
    refine ex_bipush (q := 23) dX11_failure_21 rfl (by decide) ⟨by decide, by decide⟩ ?_
    obtain ⟨r6, h6, e6, hF⟩ := zb_some hF
    refine ex_callS (d' := 0) (q := 26) (as := [vi l2, vi 6]) (st1 := [vi r6]) (r := (some (vi r6))) (h2 := h6) dX11_failure_23 rfl (run_X11_within e6) mc_X11_within ms_X11_within ml_X11_31 (by decide) rfl rfl (Nat.le_of_ble_eq_true rfl) rfl ?_
    refine ex_if_eq (q := 29) (tgt := 44) dX11_failure_26 rfl (by decide) (fun c7 => ?_) (fun c7 => ?_)
    · have hF := ip c7 hF
      refine ex_bipush (q := 46) dX11_failure_44 rfl (by decide) ⟨by decide, by decide⟩ ?_
      obtain ⟨rfl, rfl⟩ := zr hF
      exact ex_ret (some (vi (-102))) rfl ⟨dX11_failure_46, Or.inl rfl⟩ ⟨rfl, rfl⟩
    · have hF := im c7 hF
      refine ex_aload_n (q := 30) dX11_failure_29 rfl rfl ?_
      refine ex_get (q := 33) (v := vr 8 (gt h6 11 l0 3)) 3 dX11_failure_30 rfl fl_X11_27 g1 rfl rfl ?_
      obtain ⟨g8, hF⟩ := zg hF
      refine ex_get (q := 36) (v := vr 2 (gt h6 8 (gt h6 11 l0 3) 10)) 10 dX11_failure_33 rfl fl_X11_95 g8 rfl rfl ?_
      refine ex_iload_n (q := 37) dX11_failure_36 rfl rfl ?_
      refine ex_iload_n (q := 38) dX11_failure_37 rfl rfl ?_
      obtain ⟨g10, hF⟩ := zg hF
      obtain ⟨r9, h9, e9, hF⟩ := zb_some hF
      refine ex_callV (d' := 1) (q := 41) (as := [vi l1, vi l2]) (st1 := [vi r9]) (r := (some (vi r9))) (h2 := h9) dX11_failure_38 rfl (run_X2_told e9) mc_X2_told mv_X2_told ml_X11_102 (by decide) g10 rfl rfl (Nat.le_of_ble_eq_true rfl) rfl ?_
      refine ex_goto (q := 46) dX11_failure_41 (by decide) ?_
      obtain ⟨rfl, rfl⟩ := zr hF
      exact ex_ret (some (vi r9)) rfl ⟨dX11_failure_46, Or.inl rfl⟩ ⟨rfl, rfl⟩
  · have hF := im c5 hF
    refine ex_bipush (q := 19) dX11_failure_17 rfl (by decide) ⟨by decide, by decide⟩ ?_
    obtain ⟨rfl, rfl⟩ := zr hF
    exact ex_ret (some (vi (-101))) rfl ⟨dX11_failure_19, Or.inl rfl⟩ ⟨rfl, rfl⟩
def F_X11_failure (l0 l1 l2 : Int) (h : zH) : zO := F_X11_failure_0 l0 l1 l2 h
theorem run_X11_failure {l0 l1 l2 : Int} {h : zH} {r : Int} {h' : zH} (hF : F_X11_failure l0 l1 l2 h = some (r, h')) : Run 2 yX11_failure cX11_failure 3 (some .int) [vr 11 l0, vi l1, vi l2] h (some (vi r)) h' := run_of (M := M_X11_failure) (by decide) rfl (fun z => by cases z) (Nat.le_of_ble_eq_true rfl) (x_X11_failure_0 hF)
abbrev M_X11_leaks : zM := (RX11, (cX11_leaks, (1, ((some .int), false))))
def F_X11_leaks_0 (l0 : Int) (h : zH) : zO := if 0 ≤ l0 then (if 0 ≤ gt h 11 l0 0 then (some (gt h 3 (gt h 11 l0 0) 5, h)) else none) else none
set_option maxHeartbeats 1000000 in
theorem x_X11_leaks_0 {l0 : Int} {h : zH} {r : Int} {h' : zH} (hF : F_X11_leaks_0 l0 h = some (r, h')) : Ex 0 M_X11_leaks 0 [some (vr 11 l0)] [] h (fun r1 h1 => r1 = some (vi r) ∧ h1 = h') := by
  unfold F_X11_leaks_0 at hF
  refine ex_aload_n (q := 1) dX11_leaks_0 rfl rfl ?_
  obtain ⟨g1, hF⟩ := zg hF
  refine ex_get (q := 4) (v := vr 3 (gt h 11 l0 0)) 0 dX11_leaks_1 rfl fl_X11_14 g1 rfl rfl ?_
  obtain ⟨g2, hF⟩ := zg hF
  refine ex_get (q := 7) (v := vi (gt h 3 (gt h 11 l0 0) 5)) 5 dX11_leaks_4 rfl fl_X11_104 g2 rfl rfl ?_
  obtain ⟨rfl, rfl⟩ := zr hF
  exact ex_ret (some (vi (gt h 3 (gt h 11 l0 0) 5))) rfl ⟨dX11_leaks_7, Or.inl rfl⟩ ⟨rfl, rfl⟩
def F_X11_leaks (l0 : Int) (h : zH) : zO := F_X11_leaks_0 l0 h
theorem run_X11_leaks {l0 : Int} {h : zH} {r : Int} {h' : zH} (hF : F_X11_leaks l0 h = some (r, h')) : Run 0 yX11_leaks cX11_leaks 1 (some .int) [vr 11 l0] h (some (vi r)) h' := run_of (M := M_X11_leaks) (by decide) rfl (fun z => by cases z) (Nat.le_of_ble_eq_true rfl) (x_X11_leaks_0 hF)
abbrev M_X3_findHeld : zM := (RX3, (cX3_findHeld, (2, ((some (.object "HireScopes$Part")), false))))
def F_X3_findHeld_0 (l0 l1 : Int) (h : zH) : zO := if 0 ≤ l0 then (zb (F_X11_within l1 (gt h 3 l0 5) h) (fun r2 h2 => if r2 = 0 then (some ((-1), h2)) else (if 0 ≤ gt h2 3 l0 4 then (if 0 ≤ l1 ∧ l1 < 60 then (zb (F_X3_find l0 (gt h2 29 (gt h2 3 l0 4) l1) h2) (fun r6 h6 => some (r6, h6))) else none) else none))) else none
set_option maxHeartbeats 1000000 in
theorem x_X3_findHeld_0 {l0 l1 : Int} {h : zH} {r : Int} {h' : zH} (hF : F_X3_findHeld_0 l0 l1 h = some (r, h')) : Ex 2 M_X3_findHeld 0 [some (vr 3 l0), some (vi l1)] [] h (fun r1 h1 => r1 = some (vr 6 r) ∧ h1 = h') := by
  unfold F_X3_findHeld_0 at hF
  refine ex_iload_n (q := 1) dX3_findHeld_0 rfl rfl ?_
  refine ex_aload_n (q := 2) dX3_findHeld_1 rfl rfl ?_
  obtain ⟨g1, hF⟩ := zg hF
  refine ex_get (q := 5) (v := vi (gt h 3 l0 5)) 5 dX3_findHeld_2 rfl fl_X3_50 g1 rfl rfl ?_
  obtain ⟨r2, h2, e2, hF⟩ := zb_some hF
  refine ex_callS (d' := 0) (q := 8) (as := [vi l1, vi (gt h 3 l0 5)]) (st1 := [vi r2]) (r := (some (vi r2))) (h2 := h2) dX3_findHeld_5 rfl (run_X11_within e2) mc_X11_within ms_X11_within ml_X3_46 (by decide) rfl rfl (Nat.le_of_ble_eq_true rfl) rfl ?_
  refine ex_if_eq (q := 11) (tgt := 24) dX3_findHeld_8 rfl (by decide) (fun c3 => ?_) (fun c3 => ?_)
  · have hF := ip c3 hF
    refine ex_null (q := 25) 6 dX3_findHeld_24 rfl ?_
    obtain ⟨rfl, rfl⟩ := zr hF
    exact ex_ret (some (vr 6 (-1))) rfl ⟨dX3_findHeld_25, _, rfl⟩ ⟨rfl, rfl⟩
  · have hF := im c3 hF
    refine ex_aload_n (q := 12) dX3_findHeld_11 rfl rfl ?_
    refine ex_aload_n (q := 13) dX3_findHeld_12 rfl rfl ?_
    refine ex_get (q := 16) (v := vr 29 (gt h2 3 l0 4)) 4 dX3_findHeld_13 rfl fl_X3_21 g1 rfl rfl ?_
    refine ex_iload_n (q := 17) dX3_findHeld_16 rfl rfl ?_
    obtain ⟨g4, hF⟩ := zg hF
    obtain ⟨g5, hF⟩ := zg hF
    refine ex_iald (q := 18) dX3_findHeld_17 rfl kd_29 g4 g5.1 g5.2 ?_
    obtain ⟨r6, h6, e6, hF⟩ := zb_some hF
    refine ex_callV (d' := 1) (q := 21) (as := [vi (gt h2 29 (gt h2 3 l0 4) l1)]) (st1 := [vr 6 r6]) (r := (some (vr 6 r6))) (h2 := h6) dX3_findHeld_18 rfl (run_X3_find e6) mc_X3_find mv_X3_find ml_X3_53 (by decide) g1 rfl rfl (Nat.le_of_ble_eq_true rfl) rfl ?_
    refine ex_goto (q := 25) dX3_findHeld_21 (by decide) ?_
    obtain ⟨rfl, rfl⟩ := zr hF
    exact ex_ret (some (vr 6 r6)) rfl ⟨dX3_findHeld_25, _, rfl⟩ ⟨rfl, rfl⟩
def F_X3_findHeld (l0 l1 : Int) (h : zH) : zO := F_X3_findHeld_0 l0 l1 h
theorem run_X3_findHeld {l0 l1 : Int} {h : zH} {r : Int} {h' : zH} (hF : F_X3_findHeld l0 l1 h = some (r, h')) : Run 2 yX3_findHeld cX3_findHeld 2 (some (.object "HireScopes$Part")) [vr 3 l0, vi l1] h (some (vr 6 r)) h' := run_of (M := M_X3_findHeld) (by decide) rfl (fun z => by cases z) (Nat.le_of_ble_eq_true rfl) (x_X3_findHeld_0 hF)
abbrev M_X11_leak : zM := (RX11, (cX11_leak, (4, ((some .int), false))))
def F_X11_leak_0 (l0 l1 l2 : Int) (h : zH) : zO := if 0 ≤ l0 then (if 0 ≤ gt h 11 l0 0 then (zb (F_X3_findHeld (gt h 11 l0 0) l1 h) (fun r2 h2 => if r2 ≠ -1 then (if l2 = 0 then (if 0 ≤ r2 then (some (gt h2 6 r2 0, h2)) else none) else (if l2 = 1 then (if 0 ≤ r2 then (some (gt h2 6 r2 4, h2)) else none) else (if l2 = 2 then (if 0 ≤ r2 then (some (gt h2 6 r2 7, h2)) else none) else (some ((-102), h2))))) else (some ((-101), h2)))) else none) else none
set_option maxHeartbeats 1000000 in
theorem x_X11_leak_0 {l0 l1 l2 : Int} {h : zH} {r : Int} {h' : zH} (hF : F_X11_leak_0 l0 l1 l2 h = some (r, h')) : Ex 3 M_X11_leak 0 [some (vr 11 l0), some (vi l1), some (vi l2), none] [] h (fun r1 h1 => r1 = some (vi r) ∧ h1 = h') := by
  unfold F_X11_leak_0 at hF
  refine ex_aload_n (q := 1) dX11_leak_0 rfl rfl ?_
  obtain ⟨g1, hF⟩ := zg hF
  refine ex_get (q := 4) (v := vr 3 (gt h 11 l0 0)) 0 dX11_leak_1 rfl fl_X11_14 g1 rfl rfl ?_
  refine ex_iload_n (q := 5) dX11_leak_4 rfl rfl ?_
  obtain ⟨g3, hF⟩ := zg hF
  obtain ⟨r2, h2, e2, hF⟩ := zb_some hF
  refine ex_callV (d' := 2) (q := 8) (as := [vi l1]) (st1 := [vr 6 r2]) (r := (some (vr 6 r2))) (h2 := h2) dX11_leak_5 rfl (run_X3_findHeld e2) mc_X3_findHeld mv_X3_findHeld ml_X11_107 (by decide) g3 rfl rfl (Nat.le_of_ble_eq_true rfl) rfl ?_
  refine ex_astore_n (q := 9) (lo' := [some (vr 11 l0), some (vi l1), some (vi l2), some (vr 6 r2)]) dX11_leak_8 rfl (by decide) rfl rfl ?_
  refine ex_aload_n (q := 10) dX11_leak_9 rfl rfl ?_
  refine ex_ifnonnull (q := 13) (tgt := 16) dX11_leak_10 rfl (by decide) (fun c4 => ?_) (fun c4 => ?_)
  · have hF := ip c4 hF
    refine ex_iload_n (q := 17) dX11_leak_16 rfl rfl ?_
    by_cases c5 : l2 = 0
    · have hF := ip c5 hF
      refine ex_tsw 0 (tgt := 44) dX11_leak_17 c5 (by decide) (by decide) rfl (by decide) ?_
      refine ex_aload_n (q := 45) dX11_leak_44 rfl rfl ?_
      obtain ⟨g6, hF⟩ := zg hF
      refine ex_get (q := 48) (v := vi (gt h2 6 r2 0)) 0 dX11_leak_45 rfl fl_X11_110 g6 rfl rfl ?_
      obtain ⟨rfl, rfl⟩ := zr hF
      exact ex_ret (some (vi (gt h2 6 r2 0))) rfl ⟨dX11_leak_48, Or.inl rfl⟩ ⟨rfl, rfl⟩
    · have hF := im c5 hF
      by_cases c7 : l2 = 1
      · have hF := ip c7 hF
        refine ex_tsw 1 (tgt := 49) dX11_leak_17 c7 (by decide) (by decide) rfl (by decide) ?_
        refine ex_aload_n (q := 50) dX11_leak_49 rfl rfl ?_
        obtain ⟨g8, hF⟩ := zg hF
        refine ex_get (q := 53) (v := vi (gt h2 6 r2 4)) 4 dX11_leak_50 rfl fl_X11_113 g8 rfl rfl ?_
        obtain ⟨rfl, rfl⟩ := zr hF
        exact ex_ret (some (vi (gt h2 6 r2 4))) rfl ⟨dX11_leak_53, Or.inl rfl⟩ ⟨rfl, rfl⟩
      · have hF := im c7 hF
        by_cases c9 : l2 = 2
        · have hF := ip c9 hF
          refine ex_tsw 2 (tgt := 54) dX11_leak_17 c9 (by decide) (by decide) rfl (by decide) ?_
          refine ex_aload_n (q := 55) dX11_leak_54 rfl rfl ?_
          obtain ⟨g10, hF⟩ := zg hF
          refine ex_get (q := 58) (v := vi (gt h2 6 r2 7)) 7 dX11_leak_55 rfl fl_X11_116 g10 rfl rfl ?_
          obtain ⟨rfl, rfl⟩ := zr hF
          exact ex_ret (some (vi (gt h2 6 r2 7))) rfl ⟨dX11_leak_58, Or.inl rfl⟩ ⟨rfl, rfl⟩
        · have hF := im c9 hF
          refine ex_tswD (tgt := 59) dX11_leak_17 (by omega) (by decide) ?_
          refine ex_bipush (q := 61) dX11_leak_59 rfl (by decide) ⟨by decide, by decide⟩ ?_
          obtain ⟨rfl, rfl⟩ := zr hF
          exact ex_ret (some (vi (-102))) rfl ⟨dX11_leak_61, Or.inl rfl⟩ ⟨rfl, rfl⟩
  · have hF := im c4 hF
    refine ex_bipush (q := 15) dX11_leak_13 rfl (by decide) ⟨by decide, by decide⟩ ?_
    obtain ⟨rfl, rfl⟩ := zr hF
    exact ex_ret (some (vi (-101))) rfl ⟨dX11_leak_15, Or.inl rfl⟩ ⟨rfl, rfl⟩
def F_X11_leak (l0 l1 l2 : Int) (h : zH) : zO := F_X11_leak_0 l0 l1 l2 h
theorem run_X11_leak {l0 l1 l2 : Int} {h : zH} {r : Int} {h' : zH} (hF : F_X11_leak l0 l1 l2 h = some (r, h')) : Run 3 yX11_leak cX11_leak 4 (some .int) [vr 11 l0, vi l1, vi l2] h (some (vi r)) h' := run_of (M := M_X11_leak) (by decide) rfl (fun z => by cases z) (Nat.le_of_ble_eq_true rfl) (x_X11_leak_0 hF)
abbrev M_X11_trace : zM := (RX11, (cX11_trace, (5, ((some .int), false))))
def F_X11_trace_0 (l0 l1 l2 l3 : Int) (h : zH) : zO := if 0 ≤ l0 then (if 0 ≤ gt h 11 l0 0 then (zb (F_X3_findHeld (gt h 11 l0 0) l1 h) (fun r2 h2 => if r2 = -1 then (some ((-101), h2)) else (if 0 ≤ r2 then (zb (F_X11_within l2 (gt h2 6 r2 7) h2) (fun r6 h6 => if r6 ≠ 0 then (zb (F_X11_within l3 2 h6) (fun r8 h8 => if r8 ≠ 0 then (if l3 ≠ 0 then (if 0 ≤ gt h8 6 r2 6 then (if 0 ≤ l2 ∧ l2 < 10 then (some (gt h8 35 (gt h8 6 r2 6) l2, h8)) else none) else none) else (if 0 ≤ gt h8 6 r2 5 then (if 0 ≤ l2 ∧ l2 < 10 then (some (gt h8 34 (gt h8 6 r2 5) l2, h8)) else none) else none)) else (some ((-102), h8)))) else (some ((-101), h6)))) else none))) else none) else none
set_option maxHeartbeats 1000000 in
theorem x_X11_trace_0 {l0 l1 l2 l3 : Int} {h : zH} {r : Int} {h' : zH} (hF : F_X11_trace_0 l0 l1 l2 l3 h = some (r, h')) : Ex 3 M_X11_trace 0 [some (vr 11 l0), some (vi l1), some (vi l2), some (vi l3), none] [] h (fun r1 h1 => r1 = some (vi r) ∧ h1 = h') := by
  unfold F_X11_trace_0 at hF
  refine ex_aload_n (q := 1) dX11_trace_0 rfl rfl ?_
  obtain ⟨g1, hF⟩ := zg hF
  refine ex_get (q := 4) (v := vr 3 (gt h 11 l0 0)) 0 dX11_trace_1 rfl fl_X11_14 g1 rfl rfl ?_
  refine ex_iload_n (q := 5) dX11_trace_4 rfl rfl ?_
  obtain ⟨g3, hF⟩ := zg hF
  obtain ⟨r2, h2, e2, hF⟩ := zb_some hF
  refine ex_callV (d' := 2) (q := 8) (as := [vi l1]) (st1 := [vr 6 r2]) (r := (some (vr 6 r2))) (h2 := h2) dX11_trace_5 rfl (run_X3_findHeld e2) mc_X3_findHeld mv_X3_findHeld ml_X11_107 (by decide) g3 rfl rfl (Nat.le_of_ble_eq_true rfl) rfl ?_
  refine ex_astore (q := 10) (lo' := [some (vr 11 l0), some (vi l1), some (vi l2), some (vi l3), some (vr 6 r2)]) dX11_trace_8 rfl (by decide) rfl rfl ?_
  refine ex_aload (q := 12) dX11_trace_10 rfl rfl ?_
  refine ex_ifnull (q := 15) (tgt := 27) dX11_trace_12 rfl (by decide) (fun c4 => ?_) (fun c4 => ?_)
  · have hF := ip c4 hF
    refine ex_bipush (q := 29) dX11_trace_27 rfl (by decide) ⟨by decide, by decide⟩ ?_
    obtain ⟨rfl, rfl⟩ := zr hF
    exact ex_ret (some (vi (-101))) rfl ⟨dX11_trace_29, Or.inl rfl⟩ ⟨rfl, rfl⟩
  · have hF := im c4 hF
    refine ex_iload_n (q := 16) dX11_trace_15 rfl rfl ?_
    refine ex_aload (q := 18) dX11_trace_16 rfl rfl ?_
    obtain ⟨g5, hF⟩ := zg hF
    refine ex_get (q := 21) (v := vi (gt h2 6 r2 7)) 7 dX11_trace_18 rfl fl_X11_116 g5 rfl rfl ?_
    obtain ⟨r6, h6, e6, hF⟩ := zb_some hF
    refine ex_callS (d' := 0) (q := 24) (as := [vi l2, vi (gt h2 6 r2 7)]) (st1 := [vi r6]) (r := (some (vi r6))) (h2 := h6) dX11_trace_21 rfl (run_X11_within e6) mc_X11_within ms_X11_within ml_X11_31 (by decide) rfl rfl (Nat.le_of_ble_eq_true rfl) rfl ?_
    refine ex_if_ne (q := 27) (tgt := 30) dX11_trace_24 rfl (by decide) (fun c7 => ?_) (fun c7 => ?_)
    · have hF := ip c7 hF
      refine ex_iload_n (q := 31) dX11_trace_30 rfl rfl ?_
      refine ex_iconst (q := 32) dX11_trace_31 rfl ⟨by decide, by decide⟩ ?_
      obtain ⟨r8, h8, e8, hF⟩ := zb_some hF
      refine ex_callS (d' := 0) (q := 35) (as := [vi l3, vi 2]) (st1 := [vi r8]) (r := (some (vi r8))) (h2 := h8) dX11_trace_32 rfl (run_X11_within e8) mc_X11_within ms_X11_within ml_X11_31 (by decide) rfl rfl (Nat.le_of_ble_eq_true rfl) rfl ?_
      refine ex_if_ne (q := 38) (tgt := 41) dX11_trace_35 rfl (by decide) (fun c9 => ?_) (fun c9 => ?_)
      · have hF := ip c9 hF
        refine ex_iload_n (q := 42) dX11_trace_41 rfl rfl ?_
        refine ex_if_ne (q := 45) (tgt := 55) dX11_trace_42 rfl (by decide) (fun c10 => ?_) (fun c10 => ?_)
        · have hF := ip c10 hF
          refine ex_aload (q := 57) dX11_trace_55 rfl rfl ?_
          refine ex_get (q := 60) (v := vr 35 (gt h8 6 r2 6)) 6 dX11_trace_57 rfl fl_X11_123 g5 rfl rfl ?_
          refine ex_iload_n (q := 61) dX11_trace_60 rfl rfl ?_
          obtain ⟨g11, hF⟩ := zg hF
          obtain ⟨g12, hF⟩ := zg hF
          refine ex_iald (q := 62) dX11_trace_61 rfl kd_35 g11 g12.1 g12.2 ?_
          obtain ⟨rfl, rfl⟩ := zr hF
          exact ex_ret (some (vi (gt h8 35 (gt h8 6 r2 6) l2))) rfl ⟨dX11_trace_62, Or.inl rfl⟩ ⟨rfl, rfl⟩
        · have hF := im c10 hF
          refine ex_aload (q := 47) dX11_trace_45 rfl rfl ?_
          refine ex_get (q := 50) (v := vr 34 (gt h8 6 r2 5)) 5 dX11_trace_47 rfl fl_X11_119 g5 rfl rfl ?_
          refine ex_iload_n (q := 51) dX11_trace_50 rfl rfl ?_
          obtain ⟨g13, hF⟩ := zg hF
          obtain ⟨g14, hF⟩ := zg hF
          refine ex_iald (q := 52) dX11_trace_51 rfl kd_34 g13 g14.1 g14.2 ?_
          refine ex_goto (q := 62) dX11_trace_52 (by decide) ?_
          obtain ⟨rfl, rfl⟩ := zr hF
          exact ex_ret (some (vi (gt h8 34 (gt h8 6 r2 5) l2))) rfl ⟨dX11_trace_62, Or.inl rfl⟩ ⟨rfl, rfl⟩
      · have hF := im c9 hF
        refine ex_bipush (q := 40) dX11_trace_38 rfl (by decide) ⟨by decide, by decide⟩ ?_
        obtain ⟨rfl, rfl⟩ := zr hF
        exact ex_ret (some (vi (-102))) rfl ⟨dX11_trace_40, Or.inl rfl⟩ ⟨rfl, rfl⟩
    · have hF := im c7 hF
      refine ex_bipush (q := 29) dX11_trace_27 rfl (by decide) ⟨by decide, by decide⟩ ?_
      obtain ⟨rfl, rfl⟩ := zr hF
      exact ex_ret (some (vi (-101))) rfl ⟨dX11_trace_29, Or.inl rfl⟩ ⟨rfl, rfl⟩
def F_X11_trace (l0 l1 l2 l3 : Int) (h : zH) : zO := F_X11_trace_0 l0 l1 l2 l3 h
theorem run_X11_trace {l0 l1 l2 l3 : Int} {h : zH} {r : Int} {h' : zH} (hF : F_X11_trace l0 l1 l2 l3 h = some (r, h')) : Run 3 yX11_trace cX11_trace 5 (some .int) [vr 11 l0, vi l1, vi l2, vi l3] h (some (vi r)) h' := run_of (M := M_X11_trace) (by decide) rfl (fun z => by cases z) (Nat.le_of_ble_eq_true rfl) (x_X11_trace_0 hF)
abbrev M_X11_giveBack : zM := (RX11, (cX11_giveBack, (3, ((some .int), false))))
def F_X11_giveBack_0 (l0 l1 : Int) (h : zH) : zO := if 0 ≤ l0 then (if 0 ≤ gt h 11 l0 0 then (zb (F_X3_findHeld (gt h 11 l0 0) l1 h) (fun r2 h2 => if r2 ≠ -1 then (if 0 ≤ gt h2 11 l0 0 then (zb (F_X3_takeBack (gt h2 11 l0 0) r2 3 h2) (fun r5 h5 => if r5 = 0 then (some (1, h5)) else (some (0, h5)))) else none) else (some ((-101), h2)))) else none) else none
set_option maxHeartbeats 1000000 in
theorem x_X11_giveBack_0 {l0 l1 : Int} {h : zH} {r : Int} {h' : zH} (hF : F_X11_giveBack_0 l0 l1 h = some (r, h')) : Ex 3 M_X11_giveBack 0 [some (vr 11 l0), some (vi l1), none] [] h (fun r1 h1 => r1 = some (vi r) ∧ h1 = h') := by
  unfold F_X11_giveBack_0 at hF
  refine ex_aload_n (q := 1) dX11_giveBack_0 rfl rfl ?_
  obtain ⟨g1, hF⟩ := zg hF
  refine ex_get (q := 4) (v := vr 3 (gt h 11 l0 0)) 0 dX11_giveBack_1 rfl fl_X11_14 g1 rfl rfl ?_
  refine ex_iload_n (q := 5) dX11_giveBack_4 rfl rfl ?_
  obtain ⟨g3, hF⟩ := zg hF
  obtain ⟨r2, h2, e2, hF⟩ := zb_some hF
  refine ex_callV (d' := 2) (q := 8) (as := [vi l1]) (st1 := [vr 6 r2]) (r := (some (vr 6 r2))) (h2 := h2) dX11_giveBack_5 rfl (run_X3_findHeld e2) mc_X3_findHeld mv_X3_findHeld ml_X11_107 (by decide) g3 rfl rfl (Nat.le_of_ble_eq_true rfl) rfl ?_
  refine ex_astore_n (q := 9) (lo' := [some (vr 11 l0), some (vi l1), some (vr 6 r2)]) dX11_giveBack_8 rfl (by decide) rfl rfl ?_
  refine ex_aload_n (q := 10) dX11_giveBack_9 rfl rfl ?_
  refine ex_ifnonnull (q := 13) (tgt := 16) dX11_giveBack_10 rfl (by decide) (fun c4 => ?_) (fun c4 => ?_)
  · have hF := ip c4 hF
    refine ex_aload_n (q := 17) dX11_giveBack_16 rfl rfl ?_
    refine ex_get (q := 20) (v := vr 3 (gt h2 11 l0 0)) 0 dX11_giveBack_17 rfl fl_X11_14 g1 rfl rfl ?_
    refine ex_aload_n (q := 21) dX11_giveBack_20 rfl rfl ?_
    refine ex_iconst (q := 22) dX11_giveBack_21 rfl ⟨by decide, by decide⟩ ?_
    obtain ⟨g6, hF⟩ := zg hF
    obtain ⟨r5, h5, e5, hF⟩ := zb_some hF
    refine ex_callV (d' := 1) (q := 25) (as := [vr 6 r2, vi 3]) (st1 := [vi r5]) (r := (some (vi r5))) (h2 := h5) dX11_giveBack_22 rfl (run_X3_takeBack e5) mc_X3_takeBack mv_X3_takeBack ml_X11_126 (by decide) g6 rfl rfl (Nat.le_of_ble_eq_true rfl) rfl ?_
    refine ex_if_eq (q := 28) (tgt := 32) dX11_giveBack_25 rfl (by decide) (fun c7 => ?_) (fun c7 => ?_)
    · have hF := ip c7 hF
      refine ex_iconst (q := 33) dX11_giveBack_32 rfl ⟨by decide, by decide⟩ ?_
      obtain ⟨rfl, rfl⟩ := zr hF
      exact ex_ret (some (vi 1)) rfl ⟨dX11_giveBack_33, Or.inl rfl⟩ ⟨rfl, rfl⟩
    · have hF := im c7 hF
      refine ex_iconst (q := 29) dX11_giveBack_28 rfl ⟨by decide, by decide⟩ ?_
      refine ex_goto (q := 33) dX11_giveBack_29 (by decide) ?_
      obtain ⟨rfl, rfl⟩ := zr hF
      exact ex_ret (some (vi 0)) rfl ⟨dX11_giveBack_33, Or.inl rfl⟩ ⟨rfl, rfl⟩
  · have hF := im c4 hF
    refine ex_bipush (q := 15) dX11_giveBack_13 rfl (by decide) ⟨by decide, by decide⟩ ?_
    obtain ⟨rfl, rfl⟩ := zr hF
    exact ex_ret (some (vi (-101))) rfl ⟨dX11_giveBack_15, Or.inl rfl⟩ ⟨rfl, rfl⟩
def F_X11_giveBack (l0 l1 : Int) (h : zH) : zO := F_X11_giveBack_0 l0 l1 h
theorem run_X11_giveBack {l0 l1 : Int} {h : zH} {r : Int} {h' : zH} (hF : F_X11_giveBack l0 l1 h = some (r, h')) : Run 3 yX11_giveBack cX11_giveBack 3 (some .int) [vr 11 l0, vi l1] h (some (vi r)) h' := run_of (M := M_X11_giveBack) (by decide) rfl (fun z => by cases z) (Nat.le_of_ble_eq_true rfl) (x_X11_giveBack_0 hF)
abbrev M_X3_deposit : zM := (RX3, (cX3_deposit, (6, ((some .long), false))))
def F_X3_deposit_5b (ag5 : Int → Int → Int → Int → zH → zO) (l0 l1 l2 l4 : Int) (h : zH) : zO := if 0 ≤ l0 then (if gt h 3 l0 1 ≤ l4 then (some (l2, h)) else (if 0 ≤ gt h 3 l0 0 then (if 0 ≤ l4 ∧ l4 < 60 then (if gt h 27 (gt h 3 l0 0) l4 = -1 then (ag5 l0 l1 l2 (wI (l4 + 1)) h) else (if 0 ≤ gt h 27 (gt h 3 l0 0) l4 then (if gt h 6 (gt h 27 (gt h 3 l0 0) l4) 3 ≠ 1 then (ag5 l0 l1 l2 (wI (l4 + 1)) h) else (if gt h 6 (gt h 27 (gt h 3 l0 0) l4) 4 ≠ l1 then (ag5 l0 l1 l2 (wI (l4 + 1)) h) else (ag5 l0 l1 (wL (l2 + (gt h 6 (gt h 27 (gt h 3 l0 0) l4) 2))) (wI (l4 + 1)) h))) else none)) else none) else none)) else none
set_option maxHeartbeats 1000000 in
theorem x_X3_deposit_5b {ag5 : Int → Int → Int → Int → zH → zO} (hag5 : ∀ (l0 l1 l2 l4 : Int) (h : zH) (r : Int) (h' : zH), ag5 l0 l1 l2 l4 h = some (r, h') → Ex 0 M_X3_deposit 5 [some (vr 3 l0), some (vi l1), some (vl l2), none, some (vi l4), none] [] h (fun r1 h1 => r1 = some (vl r) ∧ h1 = h')) {l0 l1 l2 l4 : Int} {h : zH} {r : Int} {h' : zH} (hF : F_X3_deposit_5b ag5 l0 l1 l2 l4 h = some (r, h')) : Ex 0 M_X3_deposit 5 [some (vr 3 l0), some (vi l1), some (vl l2), none, some (vi l4), none] [] h (fun r1 h1 => r1 = some (vl r) ∧ h1 = h') := by
  unfold F_X3_deposit_5b at hF
  refine ex_iload (q := 7) dX3_deposit_5 rfl rfl ?_
  refine ex_aload_n (q := 8) dX3_deposit_7 rfl rfl ?_
  obtain ⟨g1, hF⟩ := zg hF
  refine ex_get (q := 11) (v := vi (gt h 3 l0 1)) 1 dX3_deposit_8 rfl fl_X3_42 g1 rfl rfl ?_
  refine ex_icmp_ge (q := 14) (tgt := 61) dX3_deposit_11 rfl (by decide) (fun c2 => ?_) (fun c2 => ?_)
  · have hF := ip c2 hF
    refine ex_lload_n (q := 62) dX3_deposit_61 rfl rfl ?_
    obtain ⟨rfl, rfl⟩ := zr hF
    exact ex_ret (some (vl l2)) rfl ⟨dX3_deposit_62, rfl⟩ ⟨rfl, rfl⟩
  · have hF := im c2 hF
    refine ex_aload_n (q := 15) dX3_deposit_14 rfl rfl ?_
    refine ex_get (q := 18) (v := vr 27 (gt h 3 l0 0)) 0 dX3_deposit_15 rfl fl_X3_11 g1 rfl rfl ?_
    refine ex_iload (q := 20) dX3_deposit_18 rfl rfl ?_
    obtain ⟨g3, hF⟩ := zg hF
    obtain ⟨g4, hF⟩ := zg hF
    refine ex_aald (q := 21) 6 dX3_deposit_20 rfl kd_27 (by decide) g3 g4.1 g4.2 ?_
    refine ex_astore (q := 23) (lo' := [some (vr 3 l0), some (vi l1), some (vl l2), none, some (vi l4), some (vr 6 (gt h 27 (gt h 3 l0 0) l4))]) dX3_deposit_21 rfl (by decide) rfl rfl ?_
    refine ex_aload (q := 25) dX3_deposit_23 rfl rfl ?_
    refine ex_ifnull (q := 28) (tgt := 55) dX3_deposit_25 rfl (by decide) (fun c5 => ?_) (fun c5 => ?_)
    · have hF := ip c5 hF
      refine ex_iinc (q := 58) (lo' := [some (vr 3 l0), some (vi l1), some (vl l2), none, some (vi (wI (l4 + 1))), some (vr 6 (gt h 27 (gt h 3 l0 0) l4))]) dX3_deposit_55 rfl rfl (by decide) rfl rfl ?_
      refine ex_goto (q := 5) dX3_deposit_58 (by decide) ?_
      exact ex_forget (lo' := [some (vr 3 l0), some (vi l1), some (vl l2), none, some (vi (wI (l4 + 1))), none]) ⟨Or.inr rfl, Or.inr rfl, Or.inr rfl, Or.inl rfl, Or.inr rfl, Or.inl rfl, trivial⟩ (hag5 _ _ _ _ _ _ _ hF)
    · have hF := im c5 hF
      refine ex_aload (q := 30) dX3_deposit_28 rfl rfl ?_
      obtain ⟨g6, hF⟩ := zg hF
      refine ex_get (q := 33) (v := vi (gt h 6 (gt h 27 (gt h 3 l0 0) l4) 3)) 3 dX3_deposit_30 rfl fl_X3_66 g6 rfl rfl ?_
      refine ex_iconst (q := 34) dX3_deposit_33 rfl ⟨by decide, by decide⟩ ?_
      refine ex_icmp_ne (q := 37) (tgt := 55) dX3_deposit_34 rfl (by decide) (fun c7 => ?_) (fun c7 => ?_)
      · have hF := ip c7 hF
        refine ex_iinc (q := 58) (lo' := [some (vr 3 l0), some (vi l1), some (vl l2), none, some (vi (wI (l4 + 1))), some (vr 6 (gt h 27 (gt h 3 l0 0) l4))]) dX3_deposit_55 rfl rfl (by decide) rfl rfl ?_
        refine ex_goto (q := 5) dX3_deposit_58 (by decide) ?_
        exact ex_forget (lo' := [some (vr 3 l0), some (vi l1), some (vl l2), none, some (vi (wI (l4 + 1))), none]) ⟨Or.inr rfl, Or.inr rfl, Or.inr rfl, Or.inl rfl, Or.inr rfl, Or.inl rfl, trivial⟩ (hag5 _ _ _ _ _ _ _ hF)
      · have hF := im c7 hF
        refine ex_aload (q := 39) dX3_deposit_37 rfl rfl ?_
        refine ex_get (q := 42) (v := vi (gt h 6 (gt h 27 (gt h 3 l0 0) l4) 4)) 4 dX3_deposit_39 rfl fl_X3_79 g6 rfl rfl ?_
        refine ex_iload_n (q := 43) dX3_deposit_42 rfl rfl ?_
        refine ex_icmp_ne (q := 46) (tgt := 55) dX3_deposit_43 rfl (by decide) (fun c8 => ?_) (fun c8 => ?_)
        · have hF := ip c8 hF
          refine ex_iinc (q := 58) (lo' := [some (vr 3 l0), some (vi l1), some (vl l2), none, some (vi (wI (l4 + 1))), some (vr 6 (gt h 27 (gt h 3 l0 0) l4))]) dX3_deposit_55 rfl rfl (by decide) rfl rfl ?_
          refine ex_goto (q := 5) dX3_deposit_58 (by decide) ?_
          exact ex_forget (lo' := [some (vr 3 l0), some (vi l1), some (vl l2), none, some (vi (wI (l4 + 1))), none]) ⟨Or.inr rfl, Or.inr rfl, Or.inr rfl, Or.inl rfl, Or.inr rfl, Or.inl rfl, trivial⟩ (hag5 _ _ _ _ _ _ _ hF)
        · have hF := im c8 hF
          refine ex_lload_n (q := 47) dX3_deposit_46 rfl rfl ?_
          refine ex_aload (q := 49) dX3_deposit_47 rfl rfl ?_
          refine ex_get (q := 52) (v := vi (gt h 6 (gt h 27 (gt h 3 l0 0) l4) 2)) 2 dX3_deposit_49 rfl fl_X3_105 g6 rfl rfl ?_
          refine ex_i2l (q := 53) dX3_deposit_52 rfl ?_
          refine ex_ladd (q := 54) dX3_deposit_53 rfl ?_
          refine ex_lstore_n (q := 55) (lo' := [some (vr 3 l0), some (vi l1), some (vl (wL (l2 + (gt h 6 (gt h 27 (gt h 3 l0 0) l4) 2)))), none, some (vi l4), some (vr 6 (gt h 27 (gt h 3 l0 0) l4))]) dX3_deposit_54 rfl (by decide) rfl rfl ?_
          refine ex_iinc (q := 58) (lo' := [some (vr 3 l0), some (vi l1), some (vl (wL (l2 + (gt h 6 (gt h 27 (gt h 3 l0 0) l4) 2)))), none, some (vi (wI (l4 + 1))), some (vr 6 (gt h 27 (gt h 3 l0 0) l4))]) dX3_deposit_55 rfl rfl (by decide) rfl rfl ?_
          refine ex_goto (q := 5) dX3_deposit_58 (by decide) ?_
          exact ex_forget (lo' := [some (vr 3 l0), some (vi l1), some (vl (wL (l2 + (gt h 6 (gt h 27 (gt h 3 l0 0) l4) 2)))), none, some (vi (wI (l4 + 1))), none]) ⟨Or.inr rfl, Or.inr rfl, Or.inr rfl, Or.inl rfl, Or.inr rfl, Or.inl rfl, trivial⟩ (hag5 _ _ _ _ _ _ _ hF)
def F_X3_deposit_5 : Nat → Int → Int → Int → Int → zH → zO
  | 0, _, _, _, _, _ => none
  | n + 1, l0, l1, l2, l4, h => F_X3_deposit_5b (F_X3_deposit_5 n) l0 l1 l2 l4 h
theorem x_X3_deposit_5 : ∀ (n : Nat) (l0 l1 l2 l4 : Int) (h : zH) (r : Int) (h' : zH), F_X3_deposit_5 n l0 l1 l2 l4 h = some (r, h') → Ex 0 M_X3_deposit 5 [some (vr 3 l0), some (vi l1), some (vl l2), none, some (vi l4), none] [] h (fun r1 h1 => r1 = some (vl r) ∧ h1 = h')
  | 0, _, _, _, _, _, _, _, hF => by cases hF
  | n + 1, _, _, _, _, _, _, _, hF => x_X3_deposit_5b (x_X3_deposit_5 n) hF
def F_X3_deposit_0 (l0 l1 : Int) (h : zH) : zO := F_X3_deposit_5 zF l0 l1 0 0 h
set_option maxHeartbeats 1000000 in
theorem x_X3_deposit_0 {l0 l1 : Int} {h : zH} {r : Int} {h' : zH} (hF : F_X3_deposit_0 l0 l1 h = some (r, h')) : Ex 0 M_X3_deposit 0 [some (vr 3 l0), some (vi l1), none, none, none, none] [] h (fun r1 h1 => r1 = some (vl r) ∧ h1 = h') := by
  unfold F_X3_deposit_0 at hF
  refine ex_lconst (q := 1) 0 dX3_deposit_0 rfl rfl ⟨by decide, by decide⟩ ?_
  refine ex_lstore_n (q := 2) (lo' := [some (vr 3 l0), some (vi l1), some (vl 0), none, none, none]) dX3_deposit_1 rfl (by decide) rfl rfl ?_
  refine ex_iconst (q := 3) dX3_deposit_2 rfl ⟨by decide, by decide⟩ ?_
  refine ex_istore (q := 5) (lo' := [some (vr 3 l0), some (vi l1), some (vl 0), none, some (vi 0), none]) dX3_deposit_3 rfl (by decide) rfl rfl ?_
  exact ex_forget (lo' := [some (vr 3 l0), some (vi l1), some (vl 0), none, some (vi 0), none]) ⟨Or.inr rfl, Or.inr rfl, Or.inr rfl, Or.inl rfl, Or.inr rfl, Or.inl rfl, trivial⟩ (x_X3_deposit_5 _ _ _ _ _ _ _ _ hF)
def F_X3_deposit (l0 l1 : Int) (h : zH) : zO := F_X3_deposit_0 l0 l1 h
theorem run_X3_deposit {l0 l1 : Int} {h : zH} {r : Int} {h' : zH} (hF : F_X3_deposit l0 l1 h = some (r, h')) : Run 0 yX3_deposit cX3_deposit 6 (some .long) [vr 3 l0, vi l1] h (some (vl r)) h' := run_of (M := M_X3_deposit) (by decide) rfl (fun z => by cases z) (Nat.le_of_ble_eq_true rfl) (x_X3_deposit_0 hF)
abbrev M_X11_cents : zM := (RX11, (cX11_cents, (3, ((some .long), false))))
def F_X11_cents_0 (l0 l1 l2 : Int) (h : zH) : zO := zb (F_X11_within l1 8 h) (fun r1 h1 => if r1 ≠ 0 then (zb (F_X11_within l2 2 h1) (fun r3 h3 => if r3 ≠ 0 then (if l2 ≠ 0 then (if 0 ≤ l0 then (if 0 ≤ gt h3 11 l0 0 then (if 0 ≤ gt h3 3 (gt h3 11 l0 0) 6 then (if 0 ≤ l1 ∧ l1 < 8 then (some (gt h3 30 (gt h3 3 (gt h3 11 l0 0) 6) l1, h3)) else none) else none) else none) else none) else (if 0 ≤ l0 then (if 0 ≤ gt h3 11 l0 0 then (zb (F_X3_deposit (gt h3 11 l0 0) l1 h3) (fun r11 h11 => some (r11, h11))) else none) else none)) else (some ((-102), h3)))) else (some ((-101), h1)))
set_option maxHeartbeats 1000000 in
theorem x_X11_cents_0 {l0 l1 l2 : Int} {h : zH} {r : Int} {h' : zH} (hF : F_X11_cents_0 l0 l1 l2 h = some (r, h')) : Ex 1 M_X11_cents 0 [some (vr 11 l0), some (vi l1), some (vi l2)] [] h (fun r1 h1 => r1 = some (vl r) ∧ h1 = h') := by
  unfold F_X11_cents_0 at hF
  refine ex_iload_n (q := 1) dX11_cents_0 rfl rfl ?_
  refine ex_bipush (q := 3) dX11_cents_1 rfl (by decide) ⟨by decide, by decide⟩ ?_
  obtain ⟨r1, h1, e1, hF⟩ := zb_some hF
  refine ex_callS (d' := 0) (q := 6) (as := [vi l1, vi 8]) (st1 := [vi r1]) (r := (some (vi r1))) (h2 := h1) dX11_cents_3 rfl (run_X11_within e1) mc_X11_within ms_X11_within ml_X11_31 (by decide) rfl rfl (Nat.le_of_ble_eq_true rfl) rfl ?_
  refine ex_if_ne (q := 9) (tgt := 13) dX11_cents_6 rfl (by decide) (fun c2 => ?_) (fun c2 => ?_)
  · have hF := ip c2 hF
    refine ex_iload_n (q := 14) dX11_cents_13 rfl rfl ?_
    refine ex_iconst (q := 15) dX11_cents_14 rfl ⟨by decide, by decide⟩ ?_
    obtain ⟨r3, h3, e3, hF⟩ := zb_some hF
    refine ex_callS (d' := 0) (q := 18) (as := [vi l2, vi 2]) (st1 := [vi r3]) (r := (some (vi r3))) (h2 := h3) dX11_cents_15 rfl (run_X11_within e3) mc_X11_within ms_X11_within ml_X11_31 (by decide) rfl rfl (Nat.le_of_ble_eq_true rfl) rfl ?_
    refine ex_if_ne (q := 21) (tgt := 25) dX11_cents_18 rfl (by decide) (fun c4 => ?_) (fun c4 => ?_)
    · have hF := ip c4 hF
      refine ex_iload_n (q := 26) dX11_cents_25 rfl rfl ?_
      refine ex_if_ne (q := 29) (tgt := 40) dX11_cents_26 rfl (by decide) (fun c5 => ?_) (fun c5 => ?_)
      · have hF := ip c5 hF
        refine ex_aload_n (q := 41) dX11_cents_40 rfl rfl ?_
        obtain ⟨g6, hF⟩ := zg hF
        refine ex_get (q := 44) (v := vr 3 (gt h3 11 l0 0)) 0 dX11_cents_41 rfl fl_X11_14 g6 rfl rfl ?_
        obtain ⟨g7, hF⟩ := zg hF
        refine ex_get (q := 47) (v := vr 30 (gt h3 3 (gt h3 11 l0 0) 6)) 6 dX11_cents_44 rfl fl_X11_138 g7 rfl rfl ?_
        refine ex_iload_n (q := 48) dX11_cents_47 rfl rfl ?_
        obtain ⟨g8, hF⟩ := zg hF
        obtain ⟨g9, hF⟩ := zg hF
        refine ex_lald (q := 49) dX11_cents_48 rfl kd_30 g8 g9.1 g9.2 ?_
        obtain ⟨rfl, rfl⟩ := zr hF
        exact ex_ret (some (vl (gt h3 30 (gt h3 3 (gt h3 11 l0 0) 6) l1))) rfl ⟨dX11_cents_49, rfl⟩ ⟨rfl, rfl⟩
      · have hF := im c5 hF
        refine ex_aload_n (q := 30) dX11_cents_29 rfl rfl ?_
        obtain ⟨g10, hF⟩ := zg hF
        refine ex_get (q := 33) (v := vr 3 (gt h3 11 l0 0)) 0 dX11_cents_30 rfl fl_X11_14 g10 rfl rfl ?_
        refine ex_iload_n (q := 34) dX11_cents_33 rfl rfl ?_
        obtain ⟨g12, hF⟩ := zg hF
        obtain ⟨r11, h11, e11, hF⟩ := zb_some hF
        refine ex_callV (d' := 0) (q := 37) (as := [vi l1]) (st1 := [vl r11]) (r := (some (vl r11))) (h2 := h11) dX11_cents_34 rfl (run_X3_deposit e11) mc_X3_deposit mv_X3_deposit ml_X11_134 (by decide) g12 rfl rfl (Nat.le_of_ble_eq_true rfl) rfl ?_
        refine ex_goto (q := 49) dX11_cents_37 (by decide) ?_
        obtain ⟨rfl, rfl⟩ := zr hF
        exact ex_ret (some (vl r11)) rfl ⟨dX11_cents_49, rfl⟩ ⟨rfl, rfl⟩
    · have hF := im c4 hF
      refine ex_ldc2 (q := 24) (-102) dX11_cents_21 rfl (zTbl_i 922 (by decide +kernel) (by decide +kernel)) rfl ⟨by decide, by decide⟩ ?_
      obtain ⟨rfl, rfl⟩ := zr hF
      exact ex_ret (some (vl (-102))) rfl ⟨dX11_cents_24, rfl⟩ ⟨rfl, rfl⟩
  · have hF := im c2 hF
    refine ex_ldc2 (q := 12) (-101) dX11_cents_9 rfl (zTbl_i 921 (by decide +kernel) (by decide +kernel)) rfl ⟨by decide, by decide⟩ ?_
    obtain ⟨rfl, rfl⟩ := zr hF
    exact ex_ret (some (vl (-101))) rfl ⟨dX11_cents_12, rfl⟩ ⟨rfl, rfl⟩
def F_X11_cents (l0 l1 l2 : Int) (h : zH) : zO := F_X11_cents_0 l0 l1 l2 h
theorem run_X11_cents {l0 l1 l2 : Int} {h : zH} {r : Int} {h' : zH} (hF : F_X11_cents l0 l1 l2 h = some (r, h')) : Run 1 yX11_cents cX11_cents 3 (some .long) [vr 11 l0, vi l1, vi l2] h (some (vl r)) h' := run_of (M := M_X11_cents) (by decide) rfl (fun z => by cases z) (Nat.le_of_ble_eq_true rfl) (x_X11_cents_0 hF)
abbrev M_X5_told : zM := (RX5, (cX5_told, (4, ((some .int), false))))
def F_X5_told_0 (l0 l1 l2 : Int) (h : zH) : zO := if 0 ≤ l0 then (zb (F_X11_within l1 (gt h 5 l0 3) h) (fun r2 h2 => if r2 ≠ 0 then (if gt h2 5 l0 4 < l1 then (if l2 = 0 then (if 0 ≤ gt h2 5 l0 0 then (if 0 ≤ wI ((wI ((gt h2 5 l0 4) - l1)) + 60) ∧ wI ((wI ((gt h2 5 l0 4) - l1)) + 60) < 60 then (some (gt h2 31 (gt h2 5 l0 0) (wI ((wI ((gt h2 5 l0 4) - l1)) + 60)), h2)) else none) else none) else (if l2 = 1 then (if 0 ≤ gt h2 5 l0 1 then (if 0 ≤ wI ((wI ((gt h2 5 l0 4) - l1)) + 60) ∧ wI ((wI ((gt h2 5 l0 4) - l1)) + 60) < 60 then (some (gt h2 32 (gt h2 5 l0 1) (wI ((wI ((gt h2 5 l0 4) - l1)) + 60)), h2)) else none) else none) else (if 0 ≤ gt h2 5 l0 2 then (if 0 ≤ wI ((wI ((gt h2 5 l0 4) - l1)) + 60) ∧ wI ((wI ((gt h2 5 l0 4) - l1)) + 60) < 60 then (some (gt h2 33 (gt h2 5 l0 2) (wI ((wI ((gt h2 5 l0 4) - l1)) + 60)), h2)) else none) else none))) else (if l2 = 0 then (if 0 ≤ gt h2 5 l0 0 then (if 0 ≤ wI ((gt h2 5 l0 4) - l1) ∧ wI ((gt h2 5 l0 4) - l1) < 60 then (some (gt h2 31 (gt h2 5 l0 0) (wI ((gt h2 5 l0 4) - l1)), h2)) else none) else none) else (if l2 = 1 then (if 0 ≤ gt h2 5 l0 1 then (if 0 ≤ wI ((gt h2 5 l0 4) - l1) ∧ wI ((gt h2 5 l0 4) - l1) < 60 then (some (gt h2 32 (gt h2 5 l0 1) (wI ((gt h2 5 l0 4) - l1)), h2)) else none) else none) else (if 0 ≤ gt h2 5 l0 2 then (if 0 ≤ wI ((gt h2 5 l0 4) - l1) ∧ wI ((gt h2 5 l0 4) - l1) < 60 then (some (gt h2 33 (gt h2 5 l0 2) (wI ((gt h2 5 l0 4) - l1)), h2)) else none) else none)))) else (some ((-1), h2)))) else none
set_option maxHeartbeats 1000000 in
theorem x_X5_told_0 {l0 l1 l2 : Int} {h : zH} {r : Int} {h' : zH} (hF : F_X5_told_0 l0 l1 l2 h = some (r, h')) : Ex 1 M_X5_told 0 [some (vr 5 l0), some (vi l1), some (vi l2), none] [] h (fun r1 h1 => r1 = some (vi r) ∧ h1 = h') := by
  unfold F_X5_told_0 at hF
  refine ex_iload_n (q := 1) dX5_told_0 rfl rfl ?_
  refine ex_aload_n (q := 2) dX5_told_1 rfl rfl ?_
  obtain ⟨g1, hF⟩ := zg hF
  refine ex_get (q := 5) (v := vi (gt h 5 l0 3)) 3 dX5_told_2 rfl fl_X5_25 g1 rfl rfl ?_
  obtain ⟨r2, h2, e2, hF⟩ := zb_some hF
  refine ex_callS (d' := 0) (q := 8) (as := [vi l1, vi (gt h 5 l0 3)]) (st1 := [vi r2]) (r := (some (vi r2))) (h2 := h2) dX5_told_5 rfl (run_X11_within e2) mc_X11_within ms_X11_within ml_X5_28 (by decide) rfl rfl (Nat.le_of_ble_eq_true rfl) rfl ?_
  refine ex_if_ne (q := 11) (tgt := 13) dX5_told_8 rfl (by decide) (fun c3 => ?_) (fun c3 => ?_)
  · have hF := ip c3 hF
    refine ex_aload_n (q := 14) dX5_told_13 rfl rfl ?_
    refine ex_get (q := 17) (v := vi (gt h2 5 l0 4)) 4 dX5_told_14 rfl fl_X5_21 g1 rfl rfl ?_
    refine ex_iload_n (q := 18) dX5_told_17 rfl rfl ?_
    refine ex_icmp_lt (q := 21) (tgt := 30) dX5_told_18 rfl (by decide) (fun c4 => ?_) (fun c4 => ?_)
    · have hF := ip c4 hF
      refine ex_aload_n (q := 31) dX5_told_30 rfl rfl ?_
      refine ex_get (q := 34) (v := vi (gt h2 5 l0 4)) 4 dX5_told_31 rfl fl_X5_21 g1 rfl rfl ?_
      refine ex_iload_n (q := 35) dX5_told_34 rfl rfl ?_
      refine ex_isub (q := 36) dX5_told_35 rfl ?_
      refine ex_bipush (q := 38) dX5_told_36 rfl (by decide) ⟨by decide, by decide⟩ ?_
      refine ex_iadd (q := 39) dX5_told_38 rfl ?_
      refine ex_istore_n (q := 40) (lo' := [some (vr 5 l0), some (vi l1), some (vi l2), some (vi (wI ((wI ((gt h2 5 l0 4) - l1)) + 60)))]) dX5_told_39 rfl (by decide) rfl rfl ?_
      refine ex_iload_n (q := 41) dX5_told_40 rfl rfl ?_
      by_cases c5 : l2 = 0
      · have hF := ip c5 hF
        refine ex_lsw 0 (tgt := 68) dX5_told_41 c5 rfl rfl (by decide) ?_
        refine ex_aload_n (q := 69) dX5_told_68 rfl rfl ?_
        refine ex_get (q := 72) (v := vr 31 (gt h2 5 l0 0)) 0 dX5_told_69 rfl fl_X5_9 g1 rfl rfl ?_
        refine ex_iload_n (q := 73) dX5_told_72 rfl rfl ?_
        obtain ⟨g6, hF⟩ := zg hF
        obtain ⟨g7, hF⟩ := zg hF
        refine ex_iald (q := 74) dX5_told_73 rfl kd_31 g6 g7.1 g7.2 ?_
        obtain ⟨rfl, rfl⟩ := zr hF
        exact ex_ret (some (vi (gt h2 31 (gt h2 5 l0 0) (wI ((wI ((gt h2 5 l0 4) - l1)) + 60))))) rfl ⟨dX5_told_74, Or.inl rfl⟩ ⟨rfl, rfl⟩
      · have hF := im c5 hF
        by_cases c8 : l2 = 1
        · have hF := ip c8 hF
          refine ex_lsw 1 (tgt := 75) dX5_told_41 c8 rfl rfl (by decide) ?_
          refine ex_aload_n (q := 76) dX5_told_75 rfl rfl ?_
          refine ex_get (q := 79) (v := vr 32 (gt h2 5 l0 1)) 1 dX5_told_76 rfl fl_X5_15 g1 rfl rfl ?_
          refine ex_iload_n (q := 80) dX5_told_79 rfl rfl ?_
          obtain ⟨g9, hF⟩ := zg hF
          obtain ⟨g10, hF⟩ := zg hF
          refine ex_iald (q := 81) dX5_told_80 rfl kd_32 g9 g10.1 g10.2 ?_
          obtain ⟨rfl, rfl⟩ := zr hF
          exact ex_ret (some (vi (gt h2 32 (gt h2 5 l0 1) (wI ((wI ((gt h2 5 l0 4) - l1)) + 60))))) rfl ⟨dX5_told_81, Or.inl rfl⟩ ⟨rfl, rfl⟩
        · have hF := im c8 hF
          refine ex_lswD (tgt := 82) dX5_told_41 rfl (fun p hp => by simp at hp; rcases hp with rfl | rfl <;> omega) (by decide) ?_
          refine ex_aload_n (q := 83) dX5_told_82 rfl rfl ?_
          refine ex_get (q := 86) (v := vr 33 (gt h2 5 l0 2)) 2 dX5_told_83 rfl fl_X5_18 g1 rfl rfl ?_
          refine ex_iload_n (q := 87) dX5_told_86 rfl rfl ?_
          obtain ⟨g11, hF⟩ := zg hF
          obtain ⟨g12, hF⟩ := zg hF
          refine ex_iald (q := 88) dX5_told_87 rfl kd_33 g11 g12.1 g12.2 ?_
          obtain ⟨rfl, rfl⟩ := zr hF
          exact ex_ret (some (vi (gt h2 33 (gt h2 5 l0 2) (wI ((wI ((gt h2 5 l0 4) - l1)) + 60))))) rfl ⟨dX5_told_88, Or.inl rfl⟩ ⟨rfl, rfl⟩
    · have hF := im c4 hF
      refine ex_aload_n (q := 22) dX5_told_21 rfl rfl ?_
      refine ex_get (q := 25) (v := vi (gt h2 5 l0 4)) 4 dX5_told_22 rfl fl_X5_21 g1 rfl rfl ?_
      refine ex_iload_n (q := 26) dX5_told_25 rfl rfl ?_
      refine ex_isub (q := 27) dX5_told_26 rfl ?_
      refine ex_goto (q := 39) dX5_told_27 (by decide) ?_
      refine ex_istore_n (q := 40) (lo' := [some (vr 5 l0), some (vi l1), some (vi l2), some (vi (wI ((gt h2 5 l0 4) - l1)))]) dX5_told_39 rfl (by decide) rfl rfl ?_
      refine ex_iload_n (q := 41) dX5_told_40 rfl rfl ?_
      by_cases c13 : l2 = 0
      · have hF := ip c13 hF
        refine ex_lsw 0 (tgt := 68) dX5_told_41 c13 rfl rfl (by decide) ?_
        refine ex_aload_n (q := 69) dX5_told_68 rfl rfl ?_
        refine ex_get (q := 72) (v := vr 31 (gt h2 5 l0 0)) 0 dX5_told_69 rfl fl_X5_9 g1 rfl rfl ?_
        refine ex_iload_n (q := 73) dX5_told_72 rfl rfl ?_
        obtain ⟨g14, hF⟩ := zg hF
        obtain ⟨g15, hF⟩ := zg hF
        refine ex_iald (q := 74) dX5_told_73 rfl kd_31 g14 g15.1 g15.2 ?_
        obtain ⟨rfl, rfl⟩ := zr hF
        exact ex_ret (some (vi (gt h2 31 (gt h2 5 l0 0) (wI ((gt h2 5 l0 4) - l1))))) rfl ⟨dX5_told_74, Or.inl rfl⟩ ⟨rfl, rfl⟩
      · have hF := im c13 hF
        by_cases c16 : l2 = 1
        · have hF := ip c16 hF
          refine ex_lsw 1 (tgt := 75) dX5_told_41 c16 rfl rfl (by decide) ?_
          refine ex_aload_n (q := 76) dX5_told_75 rfl rfl ?_
          refine ex_get (q := 79) (v := vr 32 (gt h2 5 l0 1)) 1 dX5_told_76 rfl fl_X5_15 g1 rfl rfl ?_
          refine ex_iload_n (q := 80) dX5_told_79 rfl rfl ?_
          obtain ⟨g17, hF⟩ := zg hF
          obtain ⟨g18, hF⟩ := zg hF
          refine ex_iald (q := 81) dX5_told_80 rfl kd_32 g17 g18.1 g18.2 ?_
          obtain ⟨rfl, rfl⟩ := zr hF
          exact ex_ret (some (vi (gt h2 32 (gt h2 5 l0 1) (wI ((gt h2 5 l0 4) - l1))))) rfl ⟨dX5_told_81, Or.inl rfl⟩ ⟨rfl, rfl⟩
        · have hF := im c16 hF
          refine ex_lswD (tgt := 82) dX5_told_41 rfl (fun p hp => by simp at hp; rcases hp with rfl | rfl <;> omega) (by decide) ?_
          refine ex_aload_n (q := 83) dX5_told_82 rfl rfl ?_
          refine ex_get (q := 86) (v := vr 33 (gt h2 5 l0 2)) 2 dX5_told_83 rfl fl_X5_18 g1 rfl rfl ?_
          refine ex_iload_n (q := 87) dX5_told_86 rfl rfl ?_
          obtain ⟨g19, hF⟩ := zg hF
          obtain ⟨g20, hF⟩ := zg hF
          refine ex_iald (q := 88) dX5_told_87 rfl kd_33 g19 g20.1 g20.2 ?_
          obtain ⟨rfl, rfl⟩ := zr hF
          exact ex_ret (some (vi (gt h2 33 (gt h2 5 l0 2) (wI ((gt h2 5 l0 4) - l1))))) rfl ⟨dX5_told_88, Or.inl rfl⟩ ⟨rfl, rfl⟩
  · have hF := im c3 hF
    refine ex_iconst (q := 12) dX5_told_11 rfl ⟨by decide, by decide⟩ ?_
    obtain ⟨rfl, rfl⟩ := zr hF
    exact ex_ret (some (vi (-1))) rfl ⟨dX5_told_12, Or.inl rfl⟩ ⟨rfl, rfl⟩
def F_X5_told (l0 l1 l2 : Int) (h : zH) : zO := F_X5_told_0 l0 l1 l2 h
theorem run_X5_told {l0 l1 l2 : Int} {h : zH} {r : Int} {h' : zH} (hF : F_X5_told l0 l1 l2 h = some (r, h')) : Run 1 yX5_told cX5_told 4 (some .int) [vr 5 l0, vi l1, vi l2] h (some (vi r)) h' := run_of (M := M_X5_told) (by decide) rfl (fun z => by cases z) (Nat.le_of_ble_eq_true rfl) (x_X5_told_0 hF)
abbrev M_X11_log : zM := (RX11, (cX11_log, (3, ((some .int), false))))
def F_X11_log_0 (l0 l1 l2 : Int) (h : zH) : zO := zb (F_X11_within l2 3 h) (fun r1 h1 => if r1 = 0 then (some ((-102), h1)) else (if 0 ≤ l0 then (if 0 ≤ gt h1 11 l0 0 then (if 0 ≤ gt h1 3 (gt h1 11 l0 0) 8 then (zb (F_X5_told (gt h1 3 (gt h1 11 l0 0) 8) l1 l2 h1) (fun r5 h5 => some (r5, h5))) else none) else none) else none))
set_option maxHeartbeats 1000000 in
theorem x_X11_log_0 {l0 l1 l2 : Int} {h : zH} {r : Int} {h' : zH} (hF : F_X11_log_0 l0 l1 l2 h = some (r, h')) : Ex 2 M_X11_log 0 [some (vr 11 l0), some (vi l1), some (vi l2)] [] h (fun r1 h1 => r1 = some (vi r) ∧ h1 = h') := by
  unfold F_X11_log_0 at hF
  refine ex_iload_n (q := 1) dX11_log_0 rfl rfl ?_
  refine ex_iconst (q := 2) dX11_log_1 rfl ⟨by decide, by decide⟩ ?_
  obtain ⟨r1, h1, e1, hF⟩ := zb_some hF
  refine ex_callS (d' := 0) (q := 5) (as := [vi l2, vi 3]) (st1 := [vi r1]) (r := (some (vi r1))) (h2 := h1) dX11_log_2 rfl (run_X11_within e1) mc_X11_within ms_X11_within ml_X11_31 (by decide) rfl rfl (Nat.le_of_ble_eq_true rfl) rfl ?_
  refine ex_if_eq (q := 8) (tgt := 23) dX11_log_5 rfl (by decide) (fun c2 => ?_) (fun c2 => ?_)
  · have hF := ip c2 hF
    refine ex_bipush (q := 25) dX11_log_23 rfl (by decide) ⟨by decide, by decide⟩ ?_
    obtain ⟨rfl, rfl⟩ := zr hF
    exact ex_ret (some (vi (-102))) rfl ⟨dX11_log_25, Or.inl rfl⟩ ⟨rfl, rfl⟩
  · have hF := im c2 hF
    refine ex_aload_n (q := 9) dX11_log_8 rfl rfl ?_
    obtain ⟨g3, hF⟩ := zg hF
    refine ex_get (q := 12) (v := vr 3 (gt h1 11 l0 0)) 0 dX11_log_9 rfl fl_X11_14 g3 rfl rfl ?_
    obtain ⟨g4, hF⟩ := zg hF
    refine ex_get (q := 15) (v := vr 5 (gt h1 3 (gt h1 11 l0 0) 8)) 8 dX11_log_12 rfl fl_X11_142 g4 rfl rfl ?_
    refine ex_iload_n (q := 16) dX11_log_15 rfl rfl ?_
    refine ex_iload_n (q := 17) dX11_log_16 rfl rfl ?_
    obtain ⟨g6, hF⟩ := zg hF
    obtain ⟨r5, h5, e5, hF⟩ := zb_some hF
    refine ex_callV (d' := 1) (q := 20) (as := [vi l1, vi l2]) (st1 := [vi r5]) (r := (some (vi r5))) (h2 := h5) dX11_log_17 rfl (run_X5_told e5) mc_X5_told mv_X5_told ml_X11_146 (by decide) g6 rfl rfl (Nat.le_of_ble_eq_true rfl) rfl ?_
    refine ex_goto (q := 25) dX11_log_20 (by decide) ?_
    obtain ⟨rfl, rfl⟩ := zr hF
    exact ex_ret (some (vi r5)) rfl ⟨dX11_log_25, Or.inl rfl⟩ ⟨rfl, rfl⟩
def F_X11_log (l0 l1 l2 : Int) (h : zH) : zO := F_X11_log_0 l0 l1 l2 h
theorem run_X11_log {l0 l1 l2 : Int} {h : zH} {r : Int} {h' : zH} (hF : F_X11_log l0 l1 l2 h = some (r, h')) : Run 2 yX11_log cX11_log 3 (some .int) [vr 11 l0, vi l1, vi l2] h (some (vi r)) h' := run_of (M := M_X11_log) (by decide) rfl (fun z => by cases z) (Nat.le_of_ble_eq_true rfl) (x_X11_log_0 hF)

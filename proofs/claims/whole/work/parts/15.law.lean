abbrev M_L_law : zM := (RL, (code, (4, ((some .boolean), false))))
def F_L_law_18b (ag18 : Int → Int → Int → zH → zO) (l1 l2 l3 : Int) (h : zH) : zO := if wI ((gt h 103 0 (-1)) - 5) < l3 then (some (1, h)) else (if 0 ≤ l3 ∧ l3 < gt h 103 0 (-1) then (if wA (gt h 103 0 l3) 31 = 0 then (if 0 ≤ wI (l3 + 1) ∧ wI (l3 + 1) < gt h 103 0 (-1) then (if 0 ≤ wI (l3 + 2) ∧ wI (l3 + 2) < gt h 103 0 (-1) then (if 0 ≤ l1 then (zb (F_X11_part l1 (gt h 103 0 (wI (l3 + 1))) (gt h 103 0 (wI (l3 + 2))) h) (fun r6 h6 => if 0 ≤ wI (l3 + 1) ∧ wI (l3 + 1) < gt h6 103 0 (-1) then (if 0 ≤ wI (l3 + 2) ∧ wI (l3 + 2) < gt h6 103 0 (-1) then (if 0 ≤ l2 then (zb (F_X12_part l2 (gt h6 103 0 (wI (l3 + 1))) (gt h6 103 0 (wI (l3 + 2))) h6) (fun r10 h10 => if r6 = r10 then (ag18 l1 l2 (wI (l3 + 5)) h10) else (some (0, h10)))) else none) else none) else none)) else none) else none) else none) else (if wA (gt h 103 0 l3) 31 = 1 then (if 0 ≤ wI (l3 + 1) ∧ wI (l3 + 1) < gt h 103 0 (-1) then (if 0 ≤ l1 then (zb (F_X11_state l1 (gt h 103 0 (wI (l3 + 1))) h) (fun r15 h15 => if 0 ≤ wI (l3 + 1) ∧ wI (l3 + 1) < gt h15 103 0 (-1) then (if 0 ≤ l2 then (zb (F_X12_state l2 (gt h15 103 0 (wI (l3 + 1))) h15) (fun r18 h18 => if r15 = r18 then (ag18 l1 l2 (wI (l3 + 5)) h18) else (some (0, h18)))) else none) else none)) else none) else none) else (if wA (gt h 103 0 l3) 31 = 2 then (if 0 ≤ wI (l3 + 1) ∧ wI (l3 + 1) < gt h 103 0 (-1) then (if 0 ≤ l1 then (zb (F_X11_clean l1 (gt h 103 0 (wI (l3 + 1))) h) (fun r23 h23 => if 0 ≤ wI (l3 + 1) ∧ wI (l3 + 1) < gt h23 103 0 (-1) then (if 0 ≤ l2 then (zb (F_X12_clean l2 (gt h23 103 0 (wI (l3 + 1))) h23) (fun r26 h26 => if r23 = r26 then (ag18 l1 l2 (wI (l3 + 5)) h26) else (some (0, h26)))) else none) else none)) else none) else none) else (if wA (gt h 103 0 l3) 31 = 3 then (if 0 ≤ wI (l3 + 1) ∧ wI (l3 + 1) < gt h 103 0 (-1) then (if 0 ≤ l1 then (zb (F_X11_cleaning l1 (gt h 103 0 (wI (l3 + 1))) h) (fun r31 h31 => if 0 ≤ wI (l3 + 1) ∧ wI (l3 + 1) < gt h31 103 0 (-1) then (if 0 ≤ l2 then (zb (F_X12_cleaning l2 (gt h31 103 0 (wI (l3 + 1))) h31) (fun r34 h34 => if r31 = r34 then (ag18 l1 l2 (wI (l3 + 5)) h34) else (some (0, h34)))) else none) else none)) else none) else none) else (if wA (gt h 103 0 l3) 31 = 4 then (if 0 ≤ wI (l3 + 1) ∧ wI (l3 + 1) < gt h 103 0 (-1) then (if 0 ≤ wI (l3 + 2) ∧ wI (l3 + 2) < gt h 103 0 (-1) then (if 0 ≤ wI (l3 + 3) ∧ wI (l3 + 3) < gt h 103 0 (-1) then (if 0 ≤ l1 then (zb (F_X11_plan l1 (gt h 103 0 (wI (l3 + 1))) (gt h 103 0 (wI (l3 + 2))) (gt h 103 0 (wI (l3 + 3))) h) (fun r41 h41 => if 0 ≤ wI (l3 + 1) ∧ wI (l3 + 1) < gt h41 103 0 (-1) then (if 0 ≤ wI (l3 + 2) ∧ wI (l3 + 2) < gt h41 103 0 (-1) then (if 0 ≤ wI (l3 + 3) ∧ wI (l3 + 3) < gt h41 103 0 (-1) then (if 0 ≤ l2 then (zb (F_X12_plan l2 (gt h41 103 0 (wI (l3 + 1))) (gt h41 103 0 (wI (l3 + 2))) (gt h41 103 0 (wI (l3 + 3))) h41) (fun r46 h46 => if r41 = r46 then (ag18 l1 l2 (wI (l3 + 5)) h46) else (some (0, h46)))) else none) else none) else none) else none)) else none) else none) else none) else none) else (if wA (gt h 103 0 l3) 31 = 5 then (if 0 ≤ wI (l3 + 1) ∧ wI (l3 + 1) < gt h 103 0 (-1) then (if gt h 103 0 (wI (l3 + 1)) = 0 then (if 0 ≤ l1 then (zb (F_X11_plans l1 0 h) (fun r52 h52 => if 0 ≤ wI (l3 + 1) ∧ wI (l3 + 1) < gt h52 103 0 (-1) then (if gt h52 103 0 (wI (l3 + 1)) = 0 then (if 0 ≤ l2 then (zb (F_X12_plans l2 0 h52) (fun r56 h56 => if r52 = r56 then (ag18 l1 l2 (wI (l3 + 5)) h56) else (some (0, h56)))) else none) else (if 0 ≤ l2 then (zb (F_X12_plans l2 1 h52) (fun r59 h59 => if r52 = r59 then (ag18 l1 l2 (wI (l3 + 5)) h59) else (some (0, h59)))) else none)) else none)) else none) else (if 0 ≤ l1 then (zb (F_X11_plans l1 1 h) (fun r62 h62 => if 0 ≤ wI (l3 + 1) ∧ wI (l3 + 1) < gt h62 103 0 (-1) then (if gt h62 103 0 (wI (l3 + 1)) = 0 then (if 0 ≤ l2 then (zb (F_X12_plans l2 0 h62) (fun r66 h66 => if r62 = r66 then (ag18 l1 l2 (wI (l3 + 5)) h66) else (some (0, h66)))) else none) else (if 0 ≤ l2 then (zb (F_X12_plans l2 1 h62) (fun r69 h69 => if r62 = r69 then (ag18 l1 l2 (wI (l3 + 5)) h69) else (some (0, h69)))) else none)) else none)) else none)) else none) else (if wA (gt h 103 0 l3) 31 = 6 then (if 0 ≤ l1 then (zb (F_X11_act l1 h) (fun r73 h73 => if 0 ≤ l2 then (zb (F_X12_act l2 h73) (fun r75 h75 => if r73 = r75 then (ag18 l1 l2 (wI (l3 + 5)) h75) else (some (0, h75)))) else none)) else none) else (if wA (gt h 103 0 l3) 31 = 7 then (if 0 ≤ wI (l3 + 1) ∧ wI (l3 + 1) < gt h 103 0 (-1) then (if 0 ≤ wI (l3 + 2) ∧ wI (l3 + 2) < gt h 103 0 (-1) then (if 0 ≤ wI (l3 + 3) ∧ wI (l3 + 3) < gt h 103 0 (-1) then (if 0 ≤ wI (l3 + 4) ∧ wI (l3 + 4) < gt h 103 0 (-1) then (if 0 ≤ l1 then (zb (F_X11_line l1 (gt h 103 0 (wI (l3 + 1))) (gt h 103 0 (wI (l3 + 2))) (gt h 103 0 (wI (l3 + 3))) (gt h 103 0 (wI (l3 + 4))) h) (fun r83 h83 => if 0 ≤ wI (l3 + 1) ∧ wI (l3 + 1) < gt h83 103 0 (-1) then (if 0 ≤ wI (l3 + 2) ∧ wI (l3 + 2) < gt h83 103 0 (-1) then (if 0 ≤ wI (l3 + 3) ∧ wI (l3 + 3) < gt h83 103 0 (-1) then (if 0 ≤ wI (l3 + 4) ∧ wI (l3 + 4) < gt h83 103 0 (-1) then (if 0 ≤ l2 then (zb (F_X12_line l2 (gt h83 103 0 (wI (l3 + 1))) (gt h83 103 0 (wI (l3 + 2))) (gt h83 103 0 (wI (l3 + 3))) (gt h83 103 0 (wI (l3 + 4))) h83) (fun r89 h89 => if r83 = r89 then (ag18 l1 l2 (wI (l3 + 5)) h89) else (some (0, h89)))) else none) else none) else none) else none) else none)) else none) else none) else none) else none) else none) else (if wA (gt h 103 0 l3) 31 = 8 then (if 0 ≤ wI (l3 + 1) ∧ wI (l3 + 1) < gt h 103 0 (-1) then (if 0 ≤ l1 then (zb (F_X11_wipe l1 (gt h 103 0 (wI (l3 + 1))) h) (fun r94 h94 => if 0 ≤ wI (l3 + 1) ∧ wI (l3 + 1) < gt h94 103 0 (-1) then (if 0 ≤ l2 then (zb (F_X12_wipe l2 (gt h94 103 0 (wI (l3 + 1))) h94) (fun r97 h97 => if r94 = r97 then (ag18 l1 l2 (wI (l3 + 5)) h97) else (some (0, h97)))) else none) else none)) else none) else none) else (if wA (gt h 103 0 l3) 31 = 9 then (if 0 ≤ wI (l3 + 1) ∧ wI (l3 + 1) < gt h 103 0 (-1) then (if 0 ≤ wI (l3 + 2) ∧ wI (l3 + 2) < gt h 103 0 (-1) then (if 0 ≤ l1 then (zb (F_X11_fault l1 (gt h 103 0 (wI (l3 + 1))) (gt h 103 0 (wI (l3 + 2))) h) (fun r103 h103 => if 0 ≤ wI (l3 + 1) ∧ wI (l3 + 1) < gt h103 103 0 (-1) then (if 0 ≤ wI (l3 + 2) ∧ wI (l3 + 2) < gt h103 103 0 (-1) then (if 0 ≤ l2 then (zb (F_X12_fault l2 (gt h103 103 0 (wI (l3 + 1))) (gt h103 103 0 (wI (l3 + 2))) h103) (fun r107 h107 => if r103 = r107 then (ag18 l1 l2 (wI (l3 + 5)) h107) else (some (0, h107)))) else none) else none) else none)) else none) else none) else none) else (if wA (gt h 103 0 l3) 31 = 10 then (if 0 ≤ wI (l3 + 1) ∧ wI (l3 + 1) < gt h 103 0 (-1) then (if 0 ≤ wI (l3 + 2) ∧ wI (l3 + 2) < gt h 103 0 (-1) then (if 0 ≤ l1 then (zb (F_X11_run l1 (gt h 103 0 (wI (l3 + 1))) (gt h 103 0 (wI (l3 + 2))) h) (fun r113 h113 => if 0 ≤ wI (l3 + 1) ∧ wI (l3 + 1) < gt h113 103 0 (-1) then (if 0 ≤ wI (l3 + 2) ∧ wI (l3 + 2) < gt h113 103 0 (-1) then (if 0 ≤ l2 then (zb (F_X12_run l2 (gt h113 103 0 (wI (l3 + 1))) (gt h113 103 0 (wI (l3 + 2))) h113) (fun r117 h117 => if r113 = r117 then (ag18 l1 l2 (wI (l3 + 5)) h117) else (some (0, h117)))) else none) else none) else none)) else none) else none) else none) else (if wA (gt h 103 0 l3) 31 = 11 then (if 0 ≤ wI (l3 + 1) ∧ wI (l3 + 1) < gt h 103 0 (-1) then (if 0 ≤ l1 then (zb (F_X11_ran l1 (gt h 103 0 (wI (l3 + 1))) h) (fun r122 h122 => if 0 ≤ wI (l3 + 1) ∧ wI (l3 + 1) < gt h122 103 0 (-1) then (if 0 ≤ l2 then (zb (F_X12_ran l2 (gt h122 103 0 (wI (l3 + 1))) h122) (fun r125 h125 => if r122 = r125 then (ag18 l1 l2 (wI (l3 + 5)) h125) else (some (0, h125)))) else none) else none)) else none) else none) else (if wA (gt h 103 0 l3) 31 = 12 then (if 0 ≤ wI (l3 + 1) ∧ wI (l3 + 1) < gt h 103 0 (-1) then (if 0 ≤ wI (l3 + 2) ∧ wI (l3 + 2) < gt h 103 0 (-1) then (if 0 ≤ l1 then (zb (F_X11_failure l1 (gt h 103 0 (wI (l3 + 1))) (gt h 103 0 (wI (l3 + 2))) h) (fun r131 h131 => if 0 ≤ wI (l3 + 1) ∧ wI (l3 + 1) < gt h131 103 0 (-1) then (if 0 ≤ wI (l3 + 2) ∧ wI (l3 + 2) < gt h131 103 0 (-1) then (if 0 ≤ l2 then (zb (F_X12_failure l2 (gt h131 103 0 (wI (l3 + 1))) (gt h131 103 0 (wI (l3 + 2))) h131) (fun r135 h135 => if r131 = r135 then (ag18 l1 l2 (wI (l3 + 5)) h135) else (some (0, h135)))) else none) else none) else none)) else none) else none) else none) else (if wA (gt h 103 0 l3) 31 = 13 then (if 0 ≤ l1 then (zb (F_X11_leaks l1 h) (fun r139 h139 => if 0 ≤ l2 then (zb (F_X12_leaks l2 h139) (fun r141 h141 => if r139 = r141 then (ag18 l1 l2 (wI (l3 + 5)) h141) else (some (0, h141)))) else none)) else none) else (if wA (gt h 103 0 l3) 31 = 14 then (if 0 ≤ wI (l3 + 1) ∧ wI (l3 + 1) < gt h 103 0 (-1) then (if 0 ≤ wI (l3 + 2) ∧ wI (l3 + 2) < gt h 103 0 (-1) then (if 0 ≤ l1 then (zb (F_X11_leak l1 (gt h 103 0 (wI (l3 + 1))) (gt h 103 0 (wI (l3 + 2))) h) (fun r147 h147 => if 0 ≤ wI (l3 + 1) ∧ wI (l3 + 1) < gt h147 103 0 (-1) then (if 0 ≤ wI (l3 + 2) ∧ wI (l3 + 2) < gt h147 103 0 (-1) then (if 0 ≤ l2 then (zb (F_X12_leak l2 (gt h147 103 0 (wI (l3 + 1))) (gt h147 103 0 (wI (l3 + 2))) h147) (fun r151 h151 => if r147 = r151 then (ag18 l1 l2 (wI (l3 + 5)) h151) else (some (0, h151)))) else none) else none) else none)) else none) else none) else none) else (if wA (gt h 103 0 l3) 31 = 15 then (if 0 ≤ wI (l3 + 1) ∧ wI (l3 + 1) < gt h 103 0 (-1) then (if 0 ≤ wI (l3 + 2) ∧ wI (l3 + 2) < gt h 103 0 (-1) then (if 0 ≤ wI (l3 + 3) ∧ wI (l3 + 3) < gt h 103 0 (-1) then (if 0 ≤ l1 then (zb (F_X11_trace l1 (gt h 103 0 (wI (l3 + 1))) (gt h 103 0 (wI (l3 + 2))) (gt h 103 0 (wI (l3 + 3))) h) (fun r158 h158 => if 0 ≤ wI (l3 + 1) ∧ wI (l3 + 1) < gt h158 103 0 (-1) then (if 0 ≤ wI (l3 + 2) ∧ wI (l3 + 2) < gt h158 103 0 (-1) then (if 0 ≤ wI (l3 + 3) ∧ wI (l3 + 3) < gt h158 103 0 (-1) then (if 0 ≤ l2 then (zb (F_X12_trace_ l2 (gt h158 103 0 (wI (l3 + 1))) (gt h158 103 0 (wI (l3 + 2))) (gt h158 103 0 (wI (l3 + 3))) h158) (fun r163 h163 => if r158 = r163 then (ag18 l1 l2 (wI (l3 + 5)) h163) else (some (0, h163)))) else none) else none) else none) else none)) else none) else none) else none) else none) else (if wA (gt h 103 0 l3) 31 = 16 then (if 0 ≤ wI (l3 + 1) ∧ wI (l3 + 1) < gt h 103 0 (-1) then (if 0 ≤ l1 then (zb (F_X11_giveBack l1 (gt h 103 0 (wI (l3 + 1))) h) (fun r168 h168 => if 0 ≤ wI (l3 + 1) ∧ wI (l3 + 1) < gt h168 103 0 (-1) then (if 0 ≤ l2 then (zb (F_X12_giveBack_ l2 (gt h168 103 0 (wI (l3 + 1))) h168) (fun r171 h171 => if r168 = r171 then (ag18 l1 l2 (wI (l3 + 5)) h171) else (some (0, h171)))) else none) else none)) else none) else none) else (if wA (gt h 103 0 l3) 31 = 17 then (if 0 ≤ wI (l3 + 1) ∧ wI (l3 + 1) < gt h 103 0 (-1) then (if 0 ≤ wI (l3 + 2) ∧ wI (l3 + 2) < gt h 103 0 (-1) then (if 0 ≤ l1 then (zb (F_X11_cents l1 (gt h 103 0 (wI (l3 + 1))) (gt h 103 0 (wI (l3 + 2))) h) (fun r177 h177 => if 0 ≤ wI (l3 + 1) ∧ wI (l3 + 1) < gt h177 103 0 (-1) then (if 0 ≤ wI (l3 + 2) ∧ wI (l3 + 2) < gt h177 103 0 (-1) then (if 0 ≤ l2 then (zb (F_X12_cents l2 (gt h177 103 0 (wI (l3 + 1))) (gt h177 103 0 (wI (l3 + 2))) h177) (fun r181 h181 => if lc r177 r181 = 0 then (ag18 l1 l2 (wI (l3 + 5)) h181) else (some (0, h181)))) else none) else none) else none)) else none) else none) else none) else (if wA (gt h 103 0 l3) 31 = 18 then (if 0 ≤ wI (l3 + 1) ∧ wI (l3 + 1) < gt h 103 0 (-1) then (if 0 ≤ wI (l3 + 2) ∧ wI (l3 + 2) < gt h 103 0 (-1) then (if 0 ≤ l1 then (zb (F_X11_log l1 (gt h 103 0 (wI (l3 + 1))) (gt h 103 0 (wI (l3 + 2))) h) (fun r187 h187 => if 0 ≤ wI (l3 + 1) ∧ wI (l3 + 1) < gt h187 103 0 (-1) then (if 0 ≤ wI (l3 + 2) ∧ wI (l3 + 2) < gt h187 103 0 (-1) then (if 0 ≤ l2 then (zb (F_X12_log l2 (gt h187 103 0 (wI (l3 + 1))) (gt h187 103 0 (wI (l3 + 2))) h187) (fun r191 h191 => if r187 = r191 then (ag18 l1 l2 (wI (l3 + 5)) h191) else (some (0, h191)))) else none) else none) else none)) else none) else none) else none) else (ag18 l1 l2 (wI (l3 + 5)) h)))))))))))))))))))) else none)
set_option maxHeartbeats 1000000 in
theorem x_L_law_18b {ag18 : Int → Int → Int → zH → zO} (hag18 : ∀ (l1 l2 l3 : Int) (h : zH) (r : Int) (h' : zH), ag18 l1 l2 l3 h = some (r, h') → Ex 9 M_L_law 18 [some (vr 103 0), some (vr 11 l1), some (vr 12 l2), some (vi l3)] [] h (fun r1 h1 => r1 = some (vi r) ∧ h1 = h')) {l1 l2 l3 : Int} {h : zH} {r : Int} {h' : zH} (hF : F_L_law_18b ag18 l1 l2 l3 h = some (r, h')) : Ex 9 M_L_law 18 [some (vr 103 0), some (vr 11 l1), some (vr 12 l2), some (vi l3)] [] h (fun r1 h1 => r1 = some (vi r) ∧ h1 = h') := by
  unfold F_L_law_18b at hF
  refine ex_iload_n (q := 19) dL_law_18 rfl rfl ?_
  refine ex_aload_n (q := 20) dL_law_19 rfl rfl ?_
  refine ex_alenS (q := 21) dL_law_20 rfl (by decide) (by decide) ?_
  refine ex_iconst (q := 22) dL_law_21 rfl ⟨by decide, by decide⟩ ?_
  refine ex_isub (q := 23) dL_law_22 rfl ?_
  refine ex_icmp_gt (q := 26) (tgt := 704) dL_law_23 rfl (by decide) (fun c1 => ?_) (fun c1 => ?_)
  · have hF := ip c1 hF
    refine ex_iconst (q := 705) dL_law_704 rfl ⟨by decide, by decide⟩ ?_
    obtain ⟨rfl, rfl⟩ := zr hF
    exact ex_ret (some (vi 1)) rfl ⟨dL_law_705, Or.inr ⟨rfl, (by decide)⟩⟩ ⟨rfl, rfl⟩
  · have hF := im c1 hF
    refine ex_aload_n (q := 27) dL_law_26 rfl rfl ?_
    refine ex_iload_n (q := 28) dL_law_27 rfl rfl ?_
    obtain ⟨g2, hF⟩ := zg hF
    refine ex_ialdS (q := 29) dL_law_28 rfl (by decide) (by decide) g2.1 g2.2 ?_
    refine ex_bipush (q := 31) dL_law_29 rfl (by decide) ⟨by decide, by decide⟩ ?_
    refine ex_iand (q := 32) dL_law_31 rfl ?_
    by_cases c3 : wA (gt h 103 0 l3) 31 = 0
    · have hF := ip c3 hF
      refine ex_tsw 0 (tgt := 124) dL_law_32 c3 (by decide) (by decide) rfl (by decide) ?_
      refine ex_aload_n (q := 125) dL_law_124 rfl rfl ?_
      refine ex_aload_n (q := 126) dL_law_125 rfl rfl ?_
      refine ex_iload_n (q := 127) dL_law_126 rfl rfl ?_
      refine ex_iconst (q := 128) dL_law_127 rfl ⟨by decide, by decide⟩ ?_
      refine ex_iadd (q := 129) dL_law_128 rfl ?_
      obtain ⟨g4, hF⟩ := zg hF
      refine ex_ialdS (q := 130) dL_law_129 rfl (by decide) (by decide) g4.1 g4.2 ?_
      refine ex_aload_n (q := 131) dL_law_130 rfl rfl ?_
      refine ex_iload_n (q := 132) dL_law_131 rfl rfl ?_
      refine ex_iconst (q := 133) dL_law_132 rfl ⟨by decide, by decide⟩ ?_
      refine ex_iadd (q := 134) dL_law_133 rfl ?_
      obtain ⟨g5, hF⟩ := zg hF
      refine ex_ialdS (q := 135) dL_law_134 rfl (by decide) (by decide) g5.1 g5.2 ?_
      obtain ⟨g7, hF⟩ := zg hF
      obtain ⟨r6, h6, e6, hF⟩ := zb_some hF
      refine ex_callV (d' := 3) (q := 138) (as := [vi (gt h 103 0 (wI (l3 + 1))), vi (gt h 103 0 (wI (l3 + 2)))]) (st1 := [vi r6]) (r := (some (vi r6))) (h2 := h6) dL_law_135 rfl (run_X11_part e6) mc_X11_part mv_X11_part ml_L_13 (by decide) g7 rfl rfl (Nat.le_of_ble_eq_true rfl) rfl ?_
      refine ex_aload_n (q := 139) dL_law_138 rfl rfl ?_
      refine ex_aload_n (q := 140) dL_law_139 rfl rfl ?_
      refine ex_iload_n (q := 141) dL_law_140 rfl rfl ?_
      refine ex_iconst (q := 142) dL_law_141 rfl ⟨by decide, by decide⟩ ?_
      refine ex_iadd (q := 143) dL_law_142 rfl ?_
      obtain ⟨g8, hF⟩ := zg hF
      refine ex_ialdS (q := 144) dL_law_143 rfl (by decide) (by decide) g8.1 g8.2 ?_
      refine ex_aload_n (q := 145) dL_law_144 rfl rfl ?_
      refine ex_iload_n (q := 146) dL_law_145 rfl rfl ?_
      refine ex_iconst (q := 147) dL_law_146 rfl ⟨by decide, by decide⟩ ?_
      refine ex_iadd (q := 148) dL_law_147 rfl ?_
      obtain ⟨g9, hF⟩ := zg hF
      refine ex_ialdS (q := 149) dL_law_148 rfl (by decide) (by decide) g9.1 g9.2 ?_
      obtain ⟨g11, hF⟩ := zg hF
      obtain ⟨r10, h10, e10, hF⟩ := zb_some hF
      refine ex_callV (d' := 1) (q := 152) (as := [vi (gt h6 103 0 (wI (l3 + 1))), vi (gt h6 103 0 (wI (l3 + 2)))]) (st1 := [vi r10, vi r6]) (r := (some (vi r10))) (h2 := h10) dL_law_149 rfl (run_X12_part e10) mc_X12_part mv_X12_part ml_L_17 (by decide) g11 rfl rfl (Nat.le_of_ble_eq_true rfl) rfl ?_
      refine ex_icmp_eq (q := 155) (tgt := 698) dL_law_152 rfl (by decide) (fun c12 => ?_) (fun c12 => ?_)
      · have hF := ip c12 hF
        refine ex_iinc (q := 701) (lo' := [some (vr 103 0), some (vr 11 l1), some (vr 12 l2), some (vi (wI (l3 + 5)))]) dL_law_698 rfl rfl (by decide) rfl rfl ?_
        refine ex_goto (q := 18) dL_law_701 (by decide) ?_
        exact ex_forget (lo' := [some (vr 103 0), some (vr 11 l1), some (vr 12 l2), some (vi (wI (l3 + 5)))]) ⟨Or.inr rfl, Or.inr rfl, Or.inr rfl, Or.inr rfl, trivial⟩ (hag18 _ _ _ _ _ _ hF)
      · have hF := im c12 hF
        refine ex_iconst (q := 156) dL_law_155 rfl ⟨by decide, by decide⟩ ?_
        obtain ⟨rfl, rfl⟩ := zr hF
        exact ex_ret (some (vi 0)) rfl ⟨dL_law_156, Or.inr ⟨rfl, (by decide)⟩⟩ ⟨rfl, rfl⟩
    · have hF := im c3 hF
      by_cases c13 : wA (gt h 103 0 l3) 31 = 1
      · have hF := ip c13 hF
        refine ex_tsw 1 (tgt := 157) dL_law_32 c13 (by decide) (by decide) rfl (by decide) ?_
        refine ex_aload_n (q := 158) dL_law_157 rfl rfl ?_
        refine ex_aload_n (q := 159) dL_law_158 rfl rfl ?_
        refine ex_iload_n (q := 160) dL_law_159 rfl rfl ?_
        refine ex_iconst (q := 161) dL_law_160 rfl ⟨by decide, by decide⟩ ?_
        refine ex_iadd (q := 162) dL_law_161 rfl ?_
        obtain ⟨g14, hF⟩ := zg hF
        refine ex_ialdS (q := 163) dL_law_162 rfl (by decide) (by decide) g14.1 g14.2 ?_
        obtain ⟨g16, hF⟩ := zg hF
        obtain ⟨r15, h15, e15, hF⟩ := zb_some hF
        refine ex_callV (d' := 2) (q := 166) (as := [vi (gt h 103 0 (wI (l3 + 1)))]) (st1 := [vi r15]) (r := (some (vi r15))) (h2 := h15) dL_law_163 rfl (run_X11_state e15) mc_X11_state mv_X11_state ml_L_18 (by decide) g16 rfl rfl (Nat.le_of_ble_eq_true rfl) rfl ?_
        refine ex_aload_n (q := 167) dL_law_166 rfl rfl ?_
        refine ex_aload_n (q := 168) dL_law_167 rfl rfl ?_
        refine ex_iload_n (q := 169) dL_law_168 rfl rfl ?_
        refine ex_iconst (q := 170) dL_law_169 rfl ⟨by decide, by decide⟩ ?_
        refine ex_iadd (q := 171) dL_law_170 rfl ?_
        obtain ⟨g17, hF⟩ := zg hF
        refine ex_ialdS (q := 172) dL_law_171 rfl (by decide) (by decide) g17.1 g17.2 ?_
        obtain ⟨g19, hF⟩ := zg hF
        obtain ⟨r18, h18, e18, hF⟩ := zb_some hF
        refine ex_callV (d' := 2) (q := 175) (as := [vi (gt h15 103 0 (wI (l3 + 1)))]) (st1 := [vi r18, vi r15]) (r := (some (vi r18))) (h2 := h18) dL_law_172 rfl (run_X12_state e18) mc_X12_state mv_X12_state ml_L_22 (by decide) g19 rfl rfl (Nat.le_of_ble_eq_true rfl) rfl ?_
        refine ex_icmp_eq (q := 178) (tgt := 698) dL_law_175 rfl (by decide) (fun c20 => ?_) (fun c20 => ?_)
        · have hF := ip c20 hF
          refine ex_iinc (q := 701) (lo' := [some (vr 103 0), some (vr 11 l1), some (vr 12 l2), some (vi (wI (l3 + 5)))]) dL_law_698 rfl rfl (by decide) rfl rfl ?_
          refine ex_goto (q := 18) dL_law_701 (by decide) ?_
          exact ex_forget (lo' := [some (vr 103 0), some (vr 11 l1), some (vr 12 l2), some (vi (wI (l3 + 5)))]) ⟨Or.inr rfl, Or.inr rfl, Or.inr rfl, Or.inr rfl, trivial⟩ (hag18 _ _ _ _ _ _ hF)
        · have hF := im c20 hF
          refine ex_iconst (q := 179) dL_law_178 rfl ⟨by decide, by decide⟩ ?_
          obtain ⟨rfl, rfl⟩ := zr hF
          exact ex_ret (some (vi 0)) rfl ⟨dL_law_179, Or.inr ⟨rfl, (by decide)⟩⟩ ⟨rfl, rfl⟩
      · have hF := im c13 hF
        by_cases c21 : wA (gt h 103 0 l3) 31 = 2
        · have hF := ip c21 hF
          refine ex_tsw 2 (tgt := 180) dL_law_32 c21 (by decide) (by decide) rfl (by decide) ?_
          refine ex_aload_n (q := 181) dL_law_180 rfl rfl ?_
          refine ex_aload_n (q := 182) dL_law_181 rfl rfl ?_
          refine ex_iload_n (q := 183) dL_law_182 rfl rfl ?_
          refine ex_iconst (q := 184) dL_law_183 rfl ⟨by decide, by decide⟩ ?_
          refine ex_iadd (q := 185) dL_law_184 rfl ?_
          obtain ⟨g22, hF⟩ := zg hF
          refine ex_ialdS (q := 186) dL_law_185 rfl (by decide) (by decide) g22.1 g22.2 ?_
          obtain ⟨g24, hF⟩ := zg hF
          obtain ⟨r23, h23, e23, hF⟩ := zb_some hF
          refine ex_callV (d' := 3) (q := 189) (as := [vi (gt h 103 0 (wI (l3 + 1)))]) (st1 := [vi r23]) (r := (some (vi r23))) (h2 := h23) dL_law_186 rfl (run_X11_clean e23) mc_X11_clean mv_X11_clean ml_L_23 (by decide) g24 rfl rfl (Nat.le_of_ble_eq_true rfl) rfl ?_
          refine ex_aload_n (q := 190) dL_law_189 rfl rfl ?_
          refine ex_aload_n (q := 191) dL_law_190 rfl rfl ?_
          refine ex_iload_n (q := 192) dL_law_191 rfl rfl ?_
          refine ex_iconst (q := 193) dL_law_192 rfl ⟨by decide, by decide⟩ ?_
          refine ex_iadd (q := 194) dL_law_193 rfl ?_
          obtain ⟨g25, hF⟩ := zg hF
          refine ex_ialdS (q := 195) dL_law_194 rfl (by decide) (by decide) g25.1 g25.2 ?_
          obtain ⟨g27, hF⟩ := zg hF
          obtain ⟨r26, h26, e26, hF⟩ := zb_some hF
          refine ex_callV (d' := 1) (q := 198) (as := [vi (gt h23 103 0 (wI (l3 + 1)))]) (st1 := [vi r26, vi r23]) (r := (some (vi r26))) (h2 := h26) dL_law_195 rfl (run_X12_clean e26) mc_X12_clean mv_X12_clean ml_L_26 (by decide) g27 rfl rfl (Nat.le_of_ble_eq_true rfl) rfl ?_
          refine ex_icmp_eq (q := 201) (tgt := 698) dL_law_198 rfl (by decide) (fun c28 => ?_) (fun c28 => ?_)
          · have hF := ip c28 hF
            refine ex_iinc (q := 701) (lo' := [some (vr 103 0), some (vr 11 l1), some (vr 12 l2), some (vi (wI (l3 + 5)))]) dL_law_698 rfl rfl (by decide) rfl rfl ?_
            refine ex_goto (q := 18) dL_law_701 (by decide) ?_
            exact ex_forget (lo' := [some (vr 103 0), some (vr 11 l1), some (vr 12 l2), some (vi (wI (l3 + 5)))]) ⟨Or.inr rfl, Or.inr rfl, Or.inr rfl, Or.inr rfl, trivial⟩ (hag18 _ _ _ _ _ _ hF)
          · have hF := im c28 hF
            refine ex_iconst (q := 202) dL_law_201 rfl ⟨by decide, by decide⟩ ?_
            obtain ⟨rfl, rfl⟩ := zr hF
            exact ex_ret (some (vi 0)) rfl ⟨dL_law_202, Or.inr ⟨rfl, (by decide)⟩⟩ ⟨rfl, rfl⟩
        · have hF := im c21 hF
          by_cases c29 : wA (gt h 103 0 l3) 31 = 3
          · have hF := ip c29 hF
            refine ex_tsw 3 (tgt := 203) dL_law_32 c29 (by decide) (by decide) rfl (by decide) ?_
            refine ex_aload_n (q := 204) dL_law_203 rfl rfl ?_
            refine ex_aload_n (q := 205) dL_law_204 rfl rfl ?_
            refine ex_iload_n (q := 206) dL_law_205 rfl rfl ?_
            refine ex_iconst (q := 207) dL_law_206 rfl ⟨by decide, by decide⟩ ?_
            refine ex_iadd (q := 208) dL_law_207 rfl ?_
            obtain ⟨g30, hF⟩ := zg hF
            refine ex_ialdS (q := 209) dL_law_208 rfl (by decide) (by decide) g30.1 g30.2 ?_
            obtain ⟨g32, hF⟩ := zg hF
            obtain ⟨r31, h31, e31, hF⟩ := zb_some hF
            refine ex_callV (d' := 2) (q := 212) (as := [vi (gt h 103 0 (wI (l3 + 1)))]) (st1 := [vi r31]) (r := (some (vi r31))) (h2 := h31) dL_law_209 rfl (run_X11_cleaning e31) mc_X11_cleaning mv_X11_cleaning ml_L_27 (by decide) g32 rfl rfl (Nat.le_of_ble_eq_true rfl) rfl ?_
            refine ex_aload_n (q := 213) dL_law_212 rfl rfl ?_
            refine ex_aload_n (q := 214) dL_law_213 rfl rfl ?_
            refine ex_iload_n (q := 215) dL_law_214 rfl rfl ?_
            refine ex_iconst (q := 216) dL_law_215 rfl ⟨by decide, by decide⟩ ?_
            refine ex_iadd (q := 217) dL_law_216 rfl ?_
            obtain ⟨g33, hF⟩ := zg hF
            refine ex_ialdS (q := 218) dL_law_217 rfl (by decide) (by decide) g33.1 g33.2 ?_
            obtain ⟨g35, hF⟩ := zg hF
            obtain ⟨r34, h34, e34, hF⟩ := zb_some hF
            refine ex_callV (d' := 1) (q := 221) (as := [vi (gt h31 103 0 (wI (l3 + 1)))]) (st1 := [vi r34, vi r31]) (r := (some (vi r34))) (h2 := h34) dL_law_218 rfl (run_X12_cleaning e34) mc_X12_cleaning mv_X12_cleaning ml_L_30 (by decide) g35 rfl rfl (Nat.le_of_ble_eq_true rfl) rfl ?_
            refine ex_icmp_eq (q := 224) (tgt := 698) dL_law_221 rfl (by decide) (fun c36 => ?_) (fun c36 => ?_)
            · have hF := ip c36 hF
              refine ex_iinc (q := 701) (lo' := [some (vr 103 0), some (vr 11 l1), some (vr 12 l2), some (vi (wI (l3 + 5)))]) dL_law_698 rfl rfl (by decide) rfl rfl ?_
              refine ex_goto (q := 18) dL_law_701 (by decide) ?_
              exact ex_forget (lo' := [some (vr 103 0), some (vr 11 l1), some (vr 12 l2), some (vi (wI (l3 + 5)))]) ⟨Or.inr rfl, Or.inr rfl, Or.inr rfl, Or.inr rfl, trivial⟩ (hag18 _ _ _ _ _ _ hF)
            · have hF := im c36 hF
              refine ex_iconst (q := 225) dL_law_224 rfl ⟨by decide, by decide⟩ ?_
              obtain ⟨rfl, rfl⟩ := zr hF
              exact ex_ret (some (vi 0)) rfl ⟨dL_law_225, Or.inr ⟨rfl, (by decide)⟩⟩ ⟨rfl, rfl⟩
          · have hF := im c29 hF
            by_cases c37 : wA (gt h 103 0 l3) 31 = 4
            · have hF := ip c37 hF
              refine ex_tsw 4 (tgt := 226) dL_law_32 c37 (by decide) (by decide) rfl (by decide) ?_
              refine ex_aload_n (q := 227) dL_law_226 rfl rfl ?_
              refine ex_aload_n (q := 228) dL_law_227 rfl rfl ?_
              refine ex_iload_n (q := 229) dL_law_228 rfl rfl ?_
              refine ex_iconst (q := 230) dL_law_229 rfl ⟨by decide, by decide⟩ ?_
              refine ex_iadd (q := 231) dL_law_230 rfl ?_
              obtain ⟨g38, hF⟩ := zg hF
              refine ex_ialdS (q := 232) dL_law_231 rfl (by decide) (by decide) g38.1 g38.2 ?_
              refine ex_aload_n (q := 233) dL_law_232 rfl rfl ?_
              refine ex_iload_n (q := 234) dL_law_233 rfl rfl ?_
              refine ex_iconst (q := 235) dL_law_234 rfl ⟨by decide, by decide⟩ ?_
              refine ex_iadd (q := 236) dL_law_235 rfl ?_
              obtain ⟨g39, hF⟩ := zg hF
              refine ex_ialdS (q := 237) dL_law_236 rfl (by decide) (by decide) g39.1 g39.2 ?_
              refine ex_aload_n (q := 238) dL_law_237 rfl rfl ?_
              refine ex_iload_n (q := 239) dL_law_238 rfl rfl ?_
              refine ex_iconst (q := 240) dL_law_239 rfl ⟨by decide, by decide⟩ ?_
              refine ex_iadd (q := 241) dL_law_240 rfl ?_
              obtain ⟨g40, hF⟩ := zg hF
              refine ex_ialdS (q := 242) dL_law_241 rfl (by decide) (by decide) g40.1 g40.2 ?_
              obtain ⟨g42, hF⟩ := zg hF
              obtain ⟨r41, h41, e41, hF⟩ := zb_some hF
              refine ex_callV (d' := 2) (q := 245) (as := [vi (gt h 103 0 (wI (l3 + 1))), vi (gt h 103 0 (wI (l3 + 2))), vi (gt h 103 0 (wI (l3 + 3)))]) (st1 := [vi r41]) (r := (some (vi r41))) (h2 := h41) dL_law_242 rfl (run_X11_plan e41) mc_X11_plan mv_X11_plan ml_L_31 (by decide) g42 rfl rfl (Nat.le_of_ble_eq_true rfl) rfl ?_
              refine ex_aload_n (q := 246) dL_law_245 rfl rfl ?_
              refine ex_aload_n (q := 247) dL_law_246 rfl rfl ?_
              refine ex_iload_n (q := 248) dL_law_247 rfl rfl ?_
              refine ex_iconst (q := 249) dL_law_248 rfl ⟨by decide, by decide⟩ ?_
              refine ex_iadd (q := 250) dL_law_249 rfl ?_
              obtain ⟨g43, hF⟩ := zg hF
              refine ex_ialdS (q := 251) dL_law_250 rfl (by decide) (by decide) g43.1 g43.2 ?_
              refine ex_aload_n (q := 252) dL_law_251 rfl rfl ?_
              refine ex_iload_n (q := 253) dL_law_252 rfl rfl ?_
              refine ex_iconst (q := 254) dL_law_253 rfl ⟨by decide, by decide⟩ ?_
              refine ex_iadd (q := 255) dL_law_254 rfl ?_
              obtain ⟨g44, hF⟩ := zg hF
              refine ex_ialdS (q := 256) dL_law_255 rfl (by decide) (by decide) g44.1 g44.2 ?_
              refine ex_aload_n (q := 257) dL_law_256 rfl rfl ?_
              refine ex_iload_n (q := 258) dL_law_257 rfl rfl ?_
              refine ex_iconst (q := 259) dL_law_258 rfl ⟨by decide, by decide⟩ ?_
              refine ex_iadd (q := 260) dL_law_259 rfl ?_
              obtain ⟨g45, hF⟩ := zg hF
              refine ex_ialdS (q := 261) dL_law_260 rfl (by decide) (by decide) g45.1 g45.2 ?_
              obtain ⟨g47, hF⟩ := zg hF
              obtain ⟨r46, h46, e46, hF⟩ := zb_some hF
              refine ex_callV (d' := 2) (q := 264) (as := [vi (gt h41 103 0 (wI (l3 + 1))), vi (gt h41 103 0 (wI (l3 + 2))), vi (gt h41 103 0 (wI (l3 + 3)))]) (st1 := [vi r46, vi r41]) (r := (some (vi r46))) (h2 := h46) dL_law_261 rfl (run_X12_plan e46) mc_X12_plan mv_X12_plan ml_L_35 (by decide) g47 rfl rfl (Nat.le_of_ble_eq_true rfl) rfl ?_
              refine ex_icmp_eq (q := 267) (tgt := 698) dL_law_264 rfl (by decide) (fun c48 => ?_) (fun c48 => ?_)
              · have hF := ip c48 hF
                refine ex_iinc (q := 701) (lo' := [some (vr 103 0), some (vr 11 l1), some (vr 12 l2), some (vi (wI (l3 + 5)))]) dL_law_698 rfl rfl (by decide) rfl rfl ?_
                refine ex_goto (q := 18) dL_law_701 (by decide) ?_
                exact ex_forget (lo' := [some (vr 103 0), some (vr 11 l1), some (vr 12 l2), some (vi (wI (l3 + 5)))]) ⟨Or.inr rfl, Or.inr rfl, Or.inr rfl, Or.inr rfl, trivial⟩ (hag18 _ _ _ _ _ _ hF)
              · have hF := im c48 hF
                refine ex_iconst (q := 268) dL_law_267 rfl ⟨by decide, by decide⟩ ?_
                obtain ⟨rfl, rfl⟩ := zr hF
                exact ex_ret (some (vi 0)) rfl ⟨dL_law_268, Or.inr ⟨rfl, (by decide)⟩⟩ ⟨rfl, rfl⟩
            · have hF := im c37 hF
              by_cases c49 : wA (gt h 103 0 l3) 31 = 5
              · have hF := ip c49 hF
                refine ex_tsw 5 (tgt := 269) dL_law_32 c49 (by decide) (by decide) rfl (by decide) ?_
                refine ex_aload_n (q := 270) dL_law_269 rfl rfl ?_
                refine ex_aload_n (q := 271) dL_law_270 rfl rfl ?_
                refine ex_iload_n (q := 272) dL_law_271 rfl rfl ?_
                refine ex_iconst (q := 273) dL_law_272 rfl ⟨by decide, by decide⟩ ?_
                refine ex_iadd (q := 274) dL_law_273 rfl ?_
                obtain ⟨g50, hF⟩ := zg hF
                refine ex_ialdS (q := 275) dL_law_274 rfl (by decide) (by decide) g50.1 g50.2 ?_
                refine ex_if_eq (q := 278) (tgt := 282) dL_law_275 rfl (by decide) (fun c51 => ?_) (fun c51 => ?_)
                · have hF := ip c51 hF
                  refine ex_iconst (q := 283) dL_law_282 rfl ⟨by decide, by decide⟩ ?_
                  obtain ⟨g53, hF⟩ := zg hF
                  obtain ⟨r52, h52, e52, hF⟩ := zb_some hF
                  refine ex_callV (d' := 0) (q := 286) (as := [vi 0]) (st1 := [vi r52]) (r := (some (vi r52))) (h2 := h52) dL_law_283 rfl (run_X11_plans e52) mc_X11_plans mv_X11_plans ml_L_36 (by decide) g53 rfl rfl (Nat.le_of_ble_eq_true rfl) rfl ?_
                  refine ex_aload_n (q := 287) dL_law_286 rfl rfl ?_
                  refine ex_aload_n (q := 288) dL_law_287 rfl rfl ?_
                  refine ex_iload_n (q := 289) dL_law_288 rfl rfl ?_
                  refine ex_iconst (q := 290) dL_law_289 rfl ⟨by decide, by decide⟩ ?_
                  refine ex_iadd (q := 291) dL_law_290 rfl ?_
                  obtain ⟨g54, hF⟩ := zg hF
                  refine ex_ialdS (q := 292) dL_law_291 rfl (by decide) (by decide) g54.1 g54.2 ?_
                  refine ex_if_eq (q := 295) (tgt := 299) dL_law_292 rfl (by decide) (fun c55 => ?_) (fun c55 => ?_)
                  · have hF := ip c55 hF
                    refine ex_iconst (q := 300) dL_law_299 rfl ⟨by decide, by decide⟩ ?_
                    obtain ⟨g57, hF⟩ := zg hF
                    obtain ⟨r56, h56, e56, hF⟩ := zb_some hF
                    refine ex_callV (d' := 0) (q := 303) (as := [vi 0]) (st1 := [vi r56, vi r52]) (r := (some (vi r56))) (h2 := h56) dL_law_300 rfl (run_X12_plans e56) mc_X12_plans mv_X12_plans ml_L_40 (by decide) g57 rfl rfl (Nat.le_of_ble_eq_true rfl) rfl ?_
                    refine ex_icmp_eq (q := 306) (tgt := 698) dL_law_303 rfl (by decide) (fun c58 => ?_) (fun c58 => ?_)
                    · have hF := ip c58 hF
                      refine ex_iinc (q := 701) (lo' := [some (vr 103 0), some (vr 11 l1), some (vr 12 l2), some (vi (wI (l3 + 5)))]) dL_law_698 rfl rfl (by decide) rfl rfl ?_
                      refine ex_goto (q := 18) dL_law_701 (by decide) ?_
                      exact ex_forget (lo' := [some (vr 103 0), some (vr 11 l1), some (vr 12 l2), some (vi (wI (l3 + 5)))]) ⟨Or.inr rfl, Or.inr rfl, Or.inr rfl, Or.inr rfl, trivial⟩ (hag18 _ _ _ _ _ _ hF)
                    · have hF := im c58 hF
                      refine ex_iconst (q := 307) dL_law_306 rfl ⟨by decide, by decide⟩ ?_
                      obtain ⟨rfl, rfl⟩ := zr hF
                      exact ex_ret (some (vi 0)) rfl ⟨dL_law_307, Or.inr ⟨rfl, (by decide)⟩⟩ ⟨rfl, rfl⟩
                  · have hF := im c55 hF
                    refine ex_iconst (q := 296) dL_law_295 rfl ⟨by decide, by decide⟩ ?_
                    refine ex_goto (q := 300) dL_law_296 (by decide) ?_
                    obtain ⟨g60, hF⟩ := zg hF
                    obtain ⟨r59, h59, e59, hF⟩ := zb_some hF
                    refine ex_callV (d' := 0) (q := 303) (as := [vi 1]) (st1 := [vi r59, vi r52]) (r := (some (vi r59))) (h2 := h59) dL_law_300 rfl (run_X12_plans e59) mc_X12_plans mv_X12_plans ml_L_40 (by decide) g60 rfl rfl (Nat.le_of_ble_eq_true rfl) rfl ?_
                    refine ex_icmp_eq (q := 306) (tgt := 698) dL_law_303 rfl (by decide) (fun c61 => ?_) (fun c61 => ?_)
                    · have hF := ip c61 hF
                      refine ex_iinc (q := 701) (lo' := [some (vr 103 0), some (vr 11 l1), some (vr 12 l2), some (vi (wI (l3 + 5)))]) dL_law_698 rfl rfl (by decide) rfl rfl ?_
                      refine ex_goto (q := 18) dL_law_701 (by decide) ?_
                      exact ex_forget (lo' := [some (vr 103 0), some (vr 11 l1), some (vr 12 l2), some (vi (wI (l3 + 5)))]) ⟨Or.inr rfl, Or.inr rfl, Or.inr rfl, Or.inr rfl, trivial⟩ (hag18 _ _ _ _ _ _ hF)
                    · have hF := im c61 hF
                      refine ex_iconst (q := 307) dL_law_306 rfl ⟨by decide, by decide⟩ ?_
                      obtain ⟨rfl, rfl⟩ := zr hF
                      exact ex_ret (some (vi 0)) rfl ⟨dL_law_307, Or.inr ⟨rfl, (by decide)⟩⟩ ⟨rfl, rfl⟩
                · have hF := im c51 hF
                  refine ex_iconst (q := 279) dL_law_278 rfl ⟨by decide, by decide⟩ ?_
                  refine ex_goto (q := 283) dL_law_279 (by decide) ?_
                  obtain ⟨g63, hF⟩ := zg hF
                  obtain ⟨r62, h62, e62, hF⟩ := zb_some hF
                  refine ex_callV (d' := 0) (q := 286) (as := [vi 1]) (st1 := [vi r62]) (r := (some (vi r62))) (h2 := h62) dL_law_283 rfl (run_X11_plans e62) mc_X11_plans mv_X11_plans ml_L_36 (by decide) g63 rfl rfl (Nat.le_of_ble_eq_true rfl) rfl ?_
                  refine ex_aload_n (q := 287) dL_law_286 rfl rfl ?_
                  refine ex_aload_n (q := 288) dL_law_287 rfl rfl ?_
                  refine ex_iload_n (q := 289) dL_law_288 rfl rfl ?_
                  refine ex_iconst (q := 290) dL_law_289 rfl ⟨by decide, by decide⟩ ?_
                  refine ex_iadd (q := 291) dL_law_290 rfl ?_
                  obtain ⟨g64, hF⟩ := zg hF
                  refine ex_ialdS (q := 292) dL_law_291 rfl (by decide) (by decide) g64.1 g64.2 ?_
                  refine ex_if_eq (q := 295) (tgt := 299) dL_law_292 rfl (by decide) (fun c65 => ?_) (fun c65 => ?_)
                  · have hF := ip c65 hF
                    refine ex_iconst (q := 300) dL_law_299 rfl ⟨by decide, by decide⟩ ?_
                    obtain ⟨g67, hF⟩ := zg hF
                    obtain ⟨r66, h66, e66, hF⟩ := zb_some hF
                    refine ex_callV (d' := 0) (q := 303) (as := [vi 0]) (st1 := [vi r66, vi r62]) (r := (some (vi r66))) (h2 := h66) dL_law_300 rfl (run_X12_plans e66) mc_X12_plans mv_X12_plans ml_L_40 (by decide) g67 rfl rfl (Nat.le_of_ble_eq_true rfl) rfl ?_
                    refine ex_icmp_eq (q := 306) (tgt := 698) dL_law_303 rfl (by decide) (fun c68 => ?_) (fun c68 => ?_)
                    · have hF := ip c68 hF
                      refine ex_iinc (q := 701) (lo' := [some (vr 103 0), some (vr 11 l1), some (vr 12 l2), some (vi (wI (l3 + 5)))]) dL_law_698 rfl rfl (by decide) rfl rfl ?_
                      refine ex_goto (q := 18) dL_law_701 (by decide) ?_
                      exact ex_forget (lo' := [some (vr 103 0), some (vr 11 l1), some (vr 12 l2), some (vi (wI (l3 + 5)))]) ⟨Or.inr rfl, Or.inr rfl, Or.inr rfl, Or.inr rfl, trivial⟩ (hag18 _ _ _ _ _ _ hF)
                    · have hF := im c68 hF
                      refine ex_iconst (q := 307) dL_law_306 rfl ⟨by decide, by decide⟩ ?_
                      obtain ⟨rfl, rfl⟩ := zr hF
                      exact ex_ret (some (vi 0)) rfl ⟨dL_law_307, Or.inr ⟨rfl, (by decide)⟩⟩ ⟨rfl, rfl⟩
                  · have hF := im c65 hF
                    refine ex_iconst (q := 296) dL_law_295 rfl ⟨by decide, by decide⟩ ?_
                    refine ex_goto (q := 300) dL_law_296 (by decide) ?_
                    obtain ⟨g70, hF⟩ := zg hF
                    obtain ⟨r69, h69, e69, hF⟩ := zb_some hF
                    refine ex_callV (d' := 0) (q := 303) (as := [vi 1]) (st1 := [vi r69, vi r62]) (r := (some (vi r69))) (h2 := h69) dL_law_300 rfl (run_X12_plans e69) mc_X12_plans mv_X12_plans ml_L_40 (by decide) g70 rfl rfl (Nat.le_of_ble_eq_true rfl) rfl ?_
                    refine ex_icmp_eq (q := 306) (tgt := 698) dL_law_303 rfl (by decide) (fun c71 => ?_) (fun c71 => ?_)
                    · have hF := ip c71 hF
                      refine ex_iinc (q := 701) (lo' := [some (vr 103 0), some (vr 11 l1), some (vr 12 l2), some (vi (wI (l3 + 5)))]) dL_law_698 rfl rfl (by decide) rfl rfl ?_
                      refine ex_goto (q := 18) dL_law_701 (by decide) ?_
                      exact ex_forget (lo' := [some (vr 103 0), some (vr 11 l1), some (vr 12 l2), some (vi (wI (l3 + 5)))]) ⟨Or.inr rfl, Or.inr rfl, Or.inr rfl, Or.inr rfl, trivial⟩ (hag18 _ _ _ _ _ _ hF)
                    · have hF := im c71 hF
                      refine ex_iconst (q := 307) dL_law_306 rfl ⟨by decide, by decide⟩ ?_
                      obtain ⟨rfl, rfl⟩ := zr hF
                      exact ex_ret (some (vi 0)) rfl ⟨dL_law_307, Or.inr ⟨rfl, (by decide)⟩⟩ ⟨rfl, rfl⟩
              · have hF := im c49 hF
                by_cases c72 : wA (gt h 103 0 l3) 31 = 6
                · have hF := ip c72 hF
                  refine ex_tsw 6 (tgt := 308) dL_law_32 c72 (by decide) (by decide) rfl (by decide) ?_
                  refine ex_aload_n (q := 309) dL_law_308 rfl rfl ?_
                  obtain ⟨g74, hF⟩ := zg hF
                  obtain ⟨r73, h73, e73, hF⟩ := zb_some hF
                  refine ex_callV (d' := 2) (q := 312) (as := []) (st1 := [vi r73]) (r := (some (vi r73))) (h2 := h73) dL_law_309 rfl (run_X11_act e73) mc_X11_act mv_X11_act ml_L_41 (by decide) g74 rfl rfl (Nat.le_of_ble_eq_true rfl) rfl ?_
                  refine ex_aload_n (q := 313) dL_law_312 rfl rfl ?_
                  obtain ⟨g76, hF⟩ := zg hF
                  obtain ⟨r75, h75, e75, hF⟩ := zb_some hF
                  refine ex_callV (d' := 0) (q := 316) (as := []) (st1 := [vi r75, vi r73]) (r := (some (vi r75))) (h2 := h75) dL_law_313 rfl (run_X12_act e75) mc_X12_act mv_X12_act ml_L_45 (by decide) g76 rfl rfl (Nat.le_of_ble_eq_true rfl) rfl ?_
                  refine ex_icmp_eq (q := 319) (tgt := 698) dL_law_316 rfl (by decide) (fun c77 => ?_) (fun c77 => ?_)
                  · have hF := ip c77 hF
                    refine ex_iinc (q := 701) (lo' := [some (vr 103 0), some (vr 11 l1), some (vr 12 l2), some (vi (wI (l3 + 5)))]) dL_law_698 rfl rfl (by decide) rfl rfl ?_
                    refine ex_goto (q := 18) dL_law_701 (by decide) ?_
                    exact ex_forget (lo' := [some (vr 103 0), some (vr 11 l1), some (vr 12 l2), some (vi (wI (l3 + 5)))]) ⟨Or.inr rfl, Or.inr rfl, Or.inr rfl, Or.inr rfl, trivial⟩ (hag18 _ _ _ _ _ _ hF)
                  · have hF := im c77 hF
                    refine ex_iconst (q := 320) dL_law_319 rfl ⟨by decide, by decide⟩ ?_
                    obtain ⟨rfl, rfl⟩ := zr hF
                    exact ex_ret (some (vi 0)) rfl ⟨dL_law_320, Or.inr ⟨rfl, (by decide)⟩⟩ ⟨rfl, rfl⟩
                · have hF := im c72 hF
                  by_cases c78 : wA (gt h 103 0 l3) 31 = 7
                  · have hF := ip c78 hF
                    refine ex_tsw 7 (tgt := 321) dL_law_32 c78 (by decide) (by decide) rfl (by decide) ?_
                    refine ex_aload_n (q := 322) dL_law_321 rfl rfl ?_
                    refine ex_aload_n (q := 323) dL_law_322 rfl rfl ?_
                    refine ex_iload_n (q := 324) dL_law_323 rfl rfl ?_
                    refine ex_iconst (q := 325) dL_law_324 rfl ⟨by decide, by decide⟩ ?_
                    refine ex_iadd (q := 326) dL_law_325 rfl ?_
                    obtain ⟨g79, hF⟩ := zg hF
                    refine ex_ialdS (q := 327) dL_law_326 rfl (by decide) (by decide) g79.1 g79.2 ?_
                    refine ex_aload_n (q := 328) dL_law_327 rfl rfl ?_
                    refine ex_iload_n (q := 329) dL_law_328 rfl rfl ?_
                    refine ex_iconst (q := 330) dL_law_329 rfl ⟨by decide, by decide⟩ ?_
                    refine ex_iadd (q := 331) dL_law_330 rfl ?_
                    obtain ⟨g80, hF⟩ := zg hF
                    refine ex_ialdS (q := 332) dL_law_331 rfl (by decide) (by decide) g80.1 g80.2 ?_
                    refine ex_aload_n (q := 333) dL_law_332 rfl rfl ?_
                    refine ex_iload_n (q := 334) dL_law_333 rfl rfl ?_
                    refine ex_iconst (q := 335) dL_law_334 rfl ⟨by decide, by decide⟩ ?_
                    refine ex_iadd (q := 336) dL_law_335 rfl ?_
                    obtain ⟨g81, hF⟩ := zg hF
                    refine ex_ialdS (q := 337) dL_law_336 rfl (by decide) (by decide) g81.1 g81.2 ?_
                    refine ex_aload_n (q := 338) dL_law_337 rfl rfl ?_
                    refine ex_iload_n (q := 339) dL_law_338 rfl rfl ?_
                    refine ex_iconst (q := 340) dL_law_339 rfl ⟨by decide, by decide⟩ ?_
                    refine ex_iadd (q := 341) dL_law_340 rfl ?_
                    obtain ⟨g82, hF⟩ := zg hF
                    refine ex_ialdS (q := 342) dL_law_341 rfl (by decide) (by decide) g82.1 g82.2 ?_
                    obtain ⟨g84, hF⟩ := zg hF
                    obtain ⟨r83, h83, e83, hF⟩ := zb_some hF
                    refine ex_callV (d' := 5) (q := 345) (as := [vi (gt h 103 0 (wI (l3 + 1))), vi (gt h 103 0 (wI (l3 + 2))), vi (gt h 103 0 (wI (l3 + 3))), vi (gt h 103 0 (wI (l3 + 4)))]) (st1 := [vi r83]) (r := (some (vi r83))) (h2 := h83) dL_law_342 rfl (run_X11_line e83) mc_X11_line mv_X11_line ml_L_46 (by decide) g84 rfl rfl (Nat.le_of_ble_eq_true rfl) rfl ?_
                    refine ex_aload_n (q := 346) dL_law_345 rfl rfl ?_
                    refine ex_aload_n (q := 347) dL_law_346 rfl rfl ?_
                    refine ex_iload_n (q := 348) dL_law_347 rfl rfl ?_
                    refine ex_iconst (q := 349) dL_law_348 rfl ⟨by decide, by decide⟩ ?_
                    refine ex_iadd (q := 350) dL_law_349 rfl ?_
                    obtain ⟨g85, hF⟩ := zg hF
                    refine ex_ialdS (q := 351) dL_law_350 rfl (by decide) (by decide) g85.1 g85.2 ?_
                    refine ex_aload_n (q := 352) dL_law_351 rfl rfl ?_
                    refine ex_iload_n (q := 353) dL_law_352 rfl rfl ?_
                    refine ex_iconst (q := 354) dL_law_353 rfl ⟨by decide, by decide⟩ ?_
                    refine ex_iadd (q := 355) dL_law_354 rfl ?_
                    obtain ⟨g86, hF⟩ := zg hF
                    refine ex_ialdS (q := 356) dL_law_355 rfl (by decide) (by decide) g86.1 g86.2 ?_
                    refine ex_aload_n (q := 357) dL_law_356 rfl rfl ?_
                    refine ex_iload_n (q := 358) dL_law_357 rfl rfl ?_
                    refine ex_iconst (q := 359) dL_law_358 rfl ⟨by decide, by decide⟩ ?_
                    refine ex_iadd (q := 360) dL_law_359 rfl ?_
                    obtain ⟨g87, hF⟩ := zg hF
                    refine ex_ialdS (q := 361) dL_law_360 rfl (by decide) (by decide) g87.1 g87.2 ?_
                    refine ex_aload_n (q := 362) dL_law_361 rfl rfl ?_
                    refine ex_iload_n (q := 363) dL_law_362 rfl rfl ?_
                    refine ex_iconst (q := 364) dL_law_363 rfl ⟨by decide, by decide⟩ ?_
                    refine ex_iadd (q := 365) dL_law_364 rfl ?_
                    obtain ⟨g88, hF⟩ := zg hF
                    refine ex_ialdS (q := 366) dL_law_365 rfl (by decide) (by decide) g88.1 g88.2 ?_
                    obtain ⟨g90, hF⟩ := zg hF
                    obtain ⟨r89, h89, e89, hF⟩ := zb_some hF
                    refine ex_callV (d' := 2) (q := 369) (as := [vi (gt h83 103 0 (wI (l3 + 1))), vi (gt h83 103 0 (wI (l3 + 2))), vi (gt h83 103 0 (wI (l3 + 3))), vi (gt h83 103 0 (wI (l3 + 4)))]) (st1 := [vi r89, vi r83]) (r := (some (vi r89))) (h2 := h89) dL_law_366 rfl (run_X12_line e89) mc_X12_line mv_X12_line ml_L_50 (by decide) g90 rfl rfl (Nat.le_of_ble_eq_true rfl) rfl ?_
                    refine ex_icmp_eq (q := 372) (tgt := 698) dL_law_369 rfl (by decide) (fun c91 => ?_) (fun c91 => ?_)
                    · have hF := ip c91 hF
                      refine ex_iinc (q := 701) (lo' := [some (vr 103 0), some (vr 11 l1), some (vr 12 l2), some (vi (wI (l3 + 5)))]) dL_law_698 rfl rfl (by decide) rfl rfl ?_
                      refine ex_goto (q := 18) dL_law_701 (by decide) ?_
                      exact ex_forget (lo' := [some (vr 103 0), some (vr 11 l1), some (vr 12 l2), some (vi (wI (l3 + 5)))]) ⟨Or.inr rfl, Or.inr rfl, Or.inr rfl, Or.inr rfl, trivial⟩ (hag18 _ _ _ _ _ _ hF)
                    · have hF := im c91 hF
                      refine ex_iconst (q := 373) dL_law_372 rfl ⟨by decide, by decide⟩ ?_
                      obtain ⟨rfl, rfl⟩ := zr hF
                      exact ex_ret (some (vi 0)) rfl ⟨dL_law_373, Or.inr ⟨rfl, (by decide)⟩⟩ ⟨rfl, rfl⟩
                  · have hF := im c78 hF
                    by_cases c92 : wA (gt h 103 0 l3) 31 = 8
                    · have hF := ip c92 hF
                      refine ex_tsw 8 (tgt := 374) dL_law_32 c92 (by decide) (by decide) rfl (by decide) ?_
                      refine ex_aload_n (q := 375) dL_law_374 rfl rfl ?_
                      refine ex_aload_n (q := 376) dL_law_375 rfl rfl ?_
                      refine ex_iload_n (q := 377) dL_law_376 rfl rfl ?_
                      refine ex_iconst (q := 378) dL_law_377 rfl ⟨by decide, by decide⟩ ?_
                      refine ex_iadd (q := 379) dL_law_378 rfl ?_
                      obtain ⟨g93, hF⟩ := zg hF
                      refine ex_ialdS (q := 380) dL_law_379 rfl (by decide) (by decide) g93.1 g93.2 ?_
                      obtain ⟨g95, hF⟩ := zg hF
                      obtain ⟨r94, h94, e94, hF⟩ := zb_some hF
                      refine ex_callV (d' := 2) (q := 383) (as := [vi (gt h 103 0 (wI (l3 + 1)))]) (st1 := [vi r94]) (r := (some (vi r94))) (h2 := h94) dL_law_380 rfl (run_X11_wipe e94) mc_X11_wipe mv_X11_wipe ml_L_51 (by decide) g95 rfl rfl (Nat.le_of_ble_eq_true rfl) rfl ?_
                      refine ex_aload_n (q := 384) dL_law_383 rfl rfl ?_
                      refine ex_aload_n (q := 385) dL_law_384 rfl rfl ?_
                      refine ex_iload_n (q := 386) dL_law_385 rfl rfl ?_
                      refine ex_iconst (q := 387) dL_law_386 rfl ⟨by decide, by decide⟩ ?_
                      refine ex_iadd (q := 388) dL_law_387 rfl ?_
                      obtain ⟨g96, hF⟩ := zg hF
                      refine ex_ialdS (q := 389) dL_law_388 rfl (by decide) (by decide) g96.1 g96.2 ?_
                      obtain ⟨g98, hF⟩ := zg hF
                      obtain ⟨r97, h97, e97, hF⟩ := zb_some hF
                      refine ex_callV (d' := 2) (q := 392) (as := [vi (gt h94 103 0 (wI (l3 + 1)))]) (st1 := [vi r97, vi r94]) (r := (some (vi r97))) (h2 := h97) dL_law_389 rfl (run_X12_wipe e97) mc_X12_wipe mv_X12_wipe ml_L_54 (by decide) g98 rfl rfl (Nat.le_of_ble_eq_true rfl) rfl ?_
                      refine ex_icmp_eq (q := 395) (tgt := 698) dL_law_392 rfl (by decide) (fun c99 => ?_) (fun c99 => ?_)
                      · have hF := ip c99 hF
                        refine ex_iinc (q := 701) (lo' := [some (vr 103 0), some (vr 11 l1), some (vr 12 l2), some (vi (wI (l3 + 5)))]) dL_law_698 rfl rfl (by decide) rfl rfl ?_
                        refine ex_goto (q := 18) dL_law_701 (by decide) ?_
                        exact ex_forget (lo' := [some (vr 103 0), some (vr 11 l1), some (vr 12 l2), some (vi (wI (l3 + 5)))]) ⟨Or.inr rfl, Or.inr rfl, Or.inr rfl, Or.inr rfl, trivial⟩ (hag18 _ _ _ _ _ _ hF)
                      · have hF := im c99 hF
                        refine ex_iconst (q := 396) dL_law_395 rfl ⟨by decide, by decide⟩ ?_
                        obtain ⟨rfl, rfl⟩ := zr hF
                        exact ex_ret (some (vi 0)) rfl ⟨dL_law_396, Or.inr ⟨rfl, (by decide)⟩⟩ ⟨rfl, rfl⟩
                    · have hF := im c92 hF
                      by_cases c100 : wA (gt h 103 0 l3) 31 = 9
                      · have hF := ip c100 hF
                        refine ex_tsw 9 (tgt := 397) dL_law_32 c100 (by decide) (by decide) rfl (by decide) ?_
                        refine ex_aload_n (q := 398) dL_law_397 rfl rfl ?_
                        refine ex_aload_n (q := 399) dL_law_398 rfl rfl ?_
                        refine ex_iload_n (q := 400) dL_law_399 rfl rfl ?_
                        refine ex_iconst (q := 401) dL_law_400 rfl ⟨by decide, by decide⟩ ?_
                        refine ex_iadd (q := 402) dL_law_401 rfl ?_
                        obtain ⟨g101, hF⟩ := zg hF
                        refine ex_ialdS (q := 403) dL_law_402 rfl (by decide) (by decide) g101.1 g101.2 ?_
                        refine ex_aload_n (q := 404) dL_law_403 rfl rfl ?_
                        refine ex_iload_n (q := 405) dL_law_404 rfl rfl ?_
                        refine ex_iconst (q := 406) dL_law_405 rfl ⟨by decide, by decide⟩ ?_
                        refine ex_iadd (q := 407) dL_law_406 rfl ?_
                        obtain ⟨g102, hF⟩ := zg hF
                        refine ex_ialdS (q := 408) dL_law_407 rfl (by decide) (by decide) g102.1 g102.2 ?_
                        obtain ⟨g104, hF⟩ := zg hF
                        obtain ⟨r103, h103, e103, hF⟩ := zb_some hF
                        refine ex_callV (d' := 2) (q := 411) (as := [vi (gt h 103 0 (wI (l3 + 1))), vi (gt h 103 0 (wI (l3 + 2)))]) (st1 := [vi r103]) (r := (some (vi r103))) (h2 := h103) dL_law_408 rfl (run_X11_fault e103) mc_X11_fault mv_X11_fault ml_L_55 (by decide) g104 rfl rfl (Nat.le_of_ble_eq_true rfl) rfl ?_
                        refine ex_aload_n (q := 412) dL_law_411 rfl rfl ?_
                        refine ex_aload_n (q := 413) dL_law_412 rfl rfl ?_
                        refine ex_iload_n (q := 414) dL_law_413 rfl rfl ?_
                        refine ex_iconst (q := 415) dL_law_414 rfl ⟨by decide, by decide⟩ ?_
                        refine ex_iadd (q := 416) dL_law_415 rfl ?_
                        obtain ⟨g105, hF⟩ := zg hF
                        refine ex_ialdS (q := 417) dL_law_416 rfl (by decide) (by decide) g105.1 g105.2 ?_
                        refine ex_aload_n (q := 418) dL_law_417 rfl rfl ?_
                        refine ex_iload_n (q := 419) dL_law_418 rfl rfl ?_
                        refine ex_iconst (q := 420) dL_law_419 rfl ⟨by decide, by decide⟩ ?_
                        refine ex_iadd (q := 421) dL_law_420 rfl ?_
                        obtain ⟨g106, hF⟩ := zg hF
                        refine ex_ialdS (q := 422) dL_law_421 rfl (by decide) (by decide) g106.1 g106.2 ?_
                        obtain ⟨g108, hF⟩ := zg hF
                        obtain ⟨r107, h107, e107, hF⟩ := zb_some hF
                        refine ex_callV (d' := 4) (q := 425) (as := [vi (gt h103 103 0 (wI (l3 + 1))), vi (gt h103 103 0 (wI (l3 + 2)))]) (st1 := [vi r107, vi r103]) (r := (some (vi r107))) (h2 := h107) dL_law_422 rfl (run_X12_fault e107) mc_X12_fault mv_X12_fault ml_L_58 (by decide) g108 rfl rfl (Nat.le_of_ble_eq_true rfl) rfl ?_
                        refine ex_icmp_eq (q := 428) (tgt := 698) dL_law_425 rfl (by decide) (fun c109 => ?_) (fun c109 => ?_)
                        · have hF := ip c109 hF
                          refine ex_iinc (q := 701) (lo' := [some (vr 103 0), some (vr 11 l1), some (vr 12 l2), some (vi (wI (l3 + 5)))]) dL_law_698 rfl rfl (by decide) rfl rfl ?_
                          refine ex_goto (q := 18) dL_law_701 (by decide) ?_
                          exact ex_forget (lo' := [some (vr 103 0), some (vr 11 l1), some (vr 12 l2), some (vi (wI (l3 + 5)))]) ⟨Or.inr rfl, Or.inr rfl, Or.inr rfl, Or.inr rfl, trivial⟩ (hag18 _ _ _ _ _ _ hF)
                        · have hF := im c109 hF
                          refine ex_iconst (q := 429) dL_law_428 rfl ⟨by decide, by decide⟩ ?_
                          obtain ⟨rfl, rfl⟩ := zr hF
                          exact ex_ret (some (vi 0)) rfl ⟨dL_law_429, Or.inr ⟨rfl, (by decide)⟩⟩ ⟨rfl, rfl⟩
                      · have hF := im c100 hF
                        by_cases c110 : wA (gt h 103 0 l3) 31 = 10
                        · have hF := ip c110 hF
                          refine ex_tsw 10 (tgt := 430) dL_law_32 c110 (by decide) (by decide) rfl (by decide) ?_
                          refine ex_aload_n (q := 431) dL_law_430 rfl rfl ?_
                          refine ex_aload_n (q := 432) dL_law_431 rfl rfl ?_
                          refine ex_iload_n (q := 433) dL_law_432 rfl rfl ?_
                          refine ex_iconst (q := 434) dL_law_433 rfl ⟨by decide, by decide⟩ ?_
                          refine ex_iadd (q := 435) dL_law_434 rfl ?_
                          obtain ⟨g111, hF⟩ := zg hF
                          refine ex_ialdS (q := 436) dL_law_435 rfl (by decide) (by decide) g111.1 g111.2 ?_
                          refine ex_aload_n (q := 437) dL_law_436 rfl rfl ?_
                          refine ex_iload_n (q := 438) dL_law_437 rfl rfl ?_
                          refine ex_iconst (q := 439) dL_law_438 rfl ⟨by decide, by decide⟩ ?_
                          refine ex_iadd (q := 440) dL_law_439 rfl ?_
                          obtain ⟨g112, hF⟩ := zg hF
                          refine ex_ialdS (q := 441) dL_law_440 rfl (by decide) (by decide) g112.1 g112.2 ?_
                          obtain ⟨g114, hF⟩ := zg hF
                          obtain ⟨r113, h113, e113, hF⟩ := zb_some hF
                          refine ex_callV (d' := 7) (q := 444) (as := [vi (gt h 103 0 (wI (l3 + 1))), vi (gt h 103 0 (wI (l3 + 2)))]) (st1 := [vi r113]) (r := (some (vi r113))) (h2 := h113) dL_law_441 rfl (run_X11_run e113) mc_X11_run mv_X11_run ml_L_59 (by decide) g114 rfl rfl (Nat.le_of_ble_eq_true rfl) rfl ?_
                          refine ex_aload_n (q := 445) dL_law_444 rfl rfl ?_
                          refine ex_aload_n (q := 446) dL_law_445 rfl rfl ?_
                          refine ex_iload_n (q := 447) dL_law_446 rfl rfl ?_
                          refine ex_iconst (q := 448) dL_law_447 rfl ⟨by decide, by decide⟩ ?_
                          refine ex_iadd (q := 449) dL_law_448 rfl ?_
                          obtain ⟨g115, hF⟩ := zg hF
                          refine ex_ialdS (q := 450) dL_law_449 rfl (by decide) (by decide) g115.1 g115.2 ?_
                          refine ex_aload_n (q := 451) dL_law_450 rfl rfl ?_
                          refine ex_iload_n (q := 452) dL_law_451 rfl rfl ?_
                          refine ex_iconst (q := 453) dL_law_452 rfl ⟨by decide, by decide⟩ ?_
                          refine ex_iadd (q := 454) dL_law_453 rfl ?_
                          obtain ⟨g116, hF⟩ := zg hF
                          refine ex_ialdS (q := 455) dL_law_454 rfl (by decide) (by decide) g116.1 g116.2 ?_
                          obtain ⟨g118, hF⟩ := zg hF
                          obtain ⟨r117, h117, e117, hF⟩ := zb_some hF
                          refine ex_callV (d' := 8) (q := 458) (as := [vi (gt h113 103 0 (wI (l3 + 1))), vi (gt h113 103 0 (wI (l3 + 2)))]) (st1 := [vi r117, vi r113]) (r := (some (vi r117))) (h2 := h117) dL_law_455 rfl (run_X12_run e117) mc_X12_run mv_X12_run ml_L_62 (by decide) g118 rfl rfl (Nat.le_of_ble_eq_true rfl) rfl ?_
                          refine ex_icmp_eq (q := 461) (tgt := 698) dL_law_458 rfl (by decide) (fun c119 => ?_) (fun c119 => ?_)
                          · have hF := ip c119 hF
                            refine ex_iinc (q := 701) (lo' := [some (vr 103 0), some (vr 11 l1), some (vr 12 l2), some (vi (wI (l3 + 5)))]) dL_law_698 rfl rfl (by decide) rfl rfl ?_
                            refine ex_goto (q := 18) dL_law_701 (by decide) ?_
                            exact ex_forget (lo' := [some (vr 103 0), some (vr 11 l1), some (vr 12 l2), some (vi (wI (l3 + 5)))]) ⟨Or.inr rfl, Or.inr rfl, Or.inr rfl, Or.inr rfl, trivial⟩ (hag18 _ _ _ _ _ _ hF)
                          · have hF := im c119 hF
                            refine ex_iconst (q := 462) dL_law_461 rfl ⟨by decide, by decide⟩ ?_
                            obtain ⟨rfl, rfl⟩ := zr hF
                            exact ex_ret (some (vi 0)) rfl ⟨dL_law_462, Or.inr ⟨rfl, (by decide)⟩⟩ ⟨rfl, rfl⟩
                        · have hF := im c110 hF
                          by_cases c120 : wA (gt h 103 0 l3) 31 = 11
                          · have hF := ip c120 hF
                            refine ex_tsw 11 (tgt := 463) dL_law_32 c120 (by decide) (by decide) rfl (by decide) ?_
                            refine ex_aload_n (q := 464) dL_law_463 rfl rfl ?_
                            refine ex_aload_n (q := 465) dL_law_464 rfl rfl ?_
                            refine ex_iload_n (q := 466) dL_law_465 rfl rfl ?_
                            refine ex_iconst (q := 467) dL_law_466 rfl ⟨by decide, by decide⟩ ?_
                            refine ex_iadd (q := 468) dL_law_467 rfl ?_
                            obtain ⟨g121, hF⟩ := zg hF
                            refine ex_ialdS (q := 469) dL_law_468 rfl (by decide) (by decide) g121.1 g121.2 ?_
                            obtain ⟨g123, hF⟩ := zg hF
                            obtain ⟨r122, h122, e122, hF⟩ := zb_some hF
                            refine ex_callV (d' := 1) (q := 472) (as := [vi (gt h 103 0 (wI (l3 + 1)))]) (st1 := [vi r122]) (r := (some (vi r122))) (h2 := h122) dL_law_469 rfl (run_X11_ran e122) mc_X11_ran mv_X11_ran ml_L_63 (by decide) g123 rfl rfl (Nat.le_of_ble_eq_true rfl) rfl ?_
                            refine ex_aload_n (q := 473) dL_law_472 rfl rfl ?_
                            refine ex_aload_n (q := 474) dL_law_473 rfl rfl ?_
                            refine ex_iload_n (q := 475) dL_law_474 rfl rfl ?_
                            refine ex_iconst (q := 476) dL_law_475 rfl ⟨by decide, by decide⟩ ?_
                            refine ex_iadd (q := 477) dL_law_476 rfl ?_
                            obtain ⟨g124, hF⟩ := zg hF
                            refine ex_ialdS (q := 478) dL_law_477 rfl (by decide) (by decide) g124.1 g124.2 ?_
                            obtain ⟨g126, hF⟩ := zg hF
                            obtain ⟨r125, h125, e125, hF⟩ := zb_some hF
                            refine ex_callV (d' := 0) (q := 481) (as := [vi (gt h122 103 0 (wI (l3 + 1)))]) (st1 := [vi r125, vi r122]) (r := (some (vi r125))) (h2 := h125) dL_law_478 rfl (run_X12_ran e125) mc_X12_ran mv_X12_ran ml_L_66 (by decide) g126 rfl rfl (Nat.le_of_ble_eq_true rfl) rfl ?_
                            refine ex_icmp_eq (q := 484) (tgt := 698) dL_law_481 rfl (by decide) (fun c127 => ?_) (fun c127 => ?_)
                            · have hF := ip c127 hF
                              refine ex_iinc (q := 701) (lo' := [some (vr 103 0), some (vr 11 l1), some (vr 12 l2), some (vi (wI (l3 + 5)))]) dL_law_698 rfl rfl (by decide) rfl rfl ?_
                              refine ex_goto (q := 18) dL_law_701 (by decide) ?_
                              exact ex_forget (lo' := [some (vr 103 0), some (vr 11 l1), some (vr 12 l2), some (vi (wI (l3 + 5)))]) ⟨Or.inr rfl, Or.inr rfl, Or.inr rfl, Or.inr rfl, trivial⟩ (hag18 _ _ _ _ _ _ hF)
                            · have hF := im c127 hF
                              refine ex_iconst (q := 485) dL_law_484 rfl ⟨by decide, by decide⟩ ?_
                              obtain ⟨rfl, rfl⟩ := zr hF
                              exact ex_ret (some (vi 0)) rfl ⟨dL_law_485, Or.inr ⟨rfl, (by decide)⟩⟩ ⟨rfl, rfl⟩
                          · have hF := im c120 hF
                            by_cases c128 : wA (gt h 103 0 l3) 31 = 12
                            · have hF := ip c128 hF
                              refine ex_tsw 12 (tgt := 486) dL_law_32 c128 (by decide) (by decide) rfl (by decide) ?_
                              refine ex_aload_n (q := 487) dL_law_486 rfl rfl ?_
                              refine ex_aload_n (q := 488) dL_law_487 rfl rfl ?_
                              refine ex_iload_n (q := 489) dL_law_488 rfl rfl ?_
                              refine ex_iconst (q := 490) dL_law_489 rfl ⟨by decide, by decide⟩ ?_
                              refine ex_iadd (q := 491) dL_law_490 rfl ?_
                              obtain ⟨g129, hF⟩ := zg hF
                              refine ex_ialdS (q := 492) dL_law_491 rfl (by decide) (by decide) g129.1 g129.2 ?_
                              refine ex_aload_n (q := 493) dL_law_492 rfl rfl ?_
                              refine ex_iload_n (q := 494) dL_law_493 rfl rfl ?_
                              refine ex_iconst (q := 495) dL_law_494 rfl ⟨by decide, by decide⟩ ?_
                              refine ex_iadd (q := 496) dL_law_495 rfl ?_
                              obtain ⟨g130, hF⟩ := zg hF
                              refine ex_ialdS (q := 497) dL_law_496 rfl (by decide) (by decide) g130.1 g130.2 ?_
                              obtain ⟨g132, hF⟩ := zg hF
                              obtain ⟨r131, h131, e131, hF⟩ := zb_some hF
                              refine ex_callV (d' := 2) (q := 500) (as := [vi (gt h 103 0 (wI (l3 + 1))), vi (gt h 103 0 (wI (l3 + 2)))]) (st1 := [vi r131]) (r := (some (vi r131))) (h2 := h131) dL_law_497 rfl (run_X11_failure e131) mc_X11_failure mv_X11_failure ml_L_67 (by decide) g132 rfl rfl (Nat.le_of_ble_eq_true rfl) rfl ?_
                              refine ex_aload_n (q := 501) dL_law_500 rfl rfl ?_
                              refine ex_aload_n (q := 502) dL_law_501 rfl rfl ?_
                              refine ex_iload_n (q := 503) dL_law_502 rfl rfl ?_
                              refine ex_iconst (q := 504) dL_law_503 rfl ⟨by decide, by decide⟩ ?_
                              refine ex_iadd (q := 505) dL_law_504 rfl ?_
                              obtain ⟨g133, hF⟩ := zg hF
                              refine ex_ialdS (q := 506) dL_law_505 rfl (by decide) (by decide) g133.1 g133.2 ?_
                              refine ex_aload_n (q := 507) dL_law_506 rfl rfl ?_
                              refine ex_iload_n (q := 508) dL_law_507 rfl rfl ?_
                              refine ex_iconst (q := 509) dL_law_508 rfl ⟨by decide, by decide⟩ ?_
                              refine ex_iadd (q := 510) dL_law_509 rfl ?_
                              obtain ⟨g134, hF⟩ := zg hF
                              refine ex_ialdS (q := 511) dL_law_510 rfl (by decide) (by decide) g134.1 g134.2 ?_
                              obtain ⟨g136, hF⟩ := zg hF
                              obtain ⟨r135, h135, e135, hF⟩ := zb_some hF
                              refine ex_callV (d' := 1) (q := 514) (as := [vi (gt h131 103 0 (wI (l3 + 1))), vi (gt h131 103 0 (wI (l3 + 2)))]) (st1 := [vi r135, vi r131]) (r := (some (vi r135))) (h2 := h135) dL_law_511 rfl (run_X12_failure e135) mc_X12_failure mv_X12_failure ml_L_70 (by decide) g136 rfl rfl (Nat.le_of_ble_eq_true rfl) rfl ?_
                              refine ex_icmp_eq (q := 517) (tgt := 698) dL_law_514 rfl (by decide) (fun c137 => ?_) (fun c137 => ?_)
                              · have hF := ip c137 hF
                                refine ex_iinc (q := 701) (lo' := [some (vr 103 0), some (vr 11 l1), some (vr 12 l2), some (vi (wI (l3 + 5)))]) dL_law_698 rfl rfl (by decide) rfl rfl ?_
                                refine ex_goto (q := 18) dL_law_701 (by decide) ?_
                                exact ex_forget (lo' := [some (vr 103 0), some (vr 11 l1), some (vr 12 l2), some (vi (wI (l3 + 5)))]) ⟨Or.inr rfl, Or.inr rfl, Or.inr rfl, Or.inr rfl, trivial⟩ (hag18 _ _ _ _ _ _ hF)
                              · have hF := im c137 hF
                                refine ex_iconst (q := 518) dL_law_517 rfl ⟨by decide, by decide⟩ ?_
                                obtain ⟨rfl, rfl⟩ := zr hF
                                exact ex_ret (some (vi 0)) rfl ⟨dL_law_518, Or.inr ⟨rfl, (by decide)⟩⟩ ⟨rfl, rfl⟩
                            · have hF := im c128 hF
                              by_cases c138 : wA (gt h 103 0 l3) 31 = 13
                              · have hF := ip c138 hF
                                refine ex_tsw 13 (tgt := 519) dL_law_32 c138 (by decide) (by decide) rfl (by decide) ?_
                                refine ex_aload_n (q := 520) dL_law_519 rfl rfl ?_
                                obtain ⟨g140, hF⟩ := zg hF
                                obtain ⟨r139, h139, e139, hF⟩ := zb_some hF
                                refine ex_callV (d' := 0) (q := 523) (as := []) (st1 := [vi r139]) (r := (some (vi r139))) (h2 := h139) dL_law_520 rfl (run_X11_leaks e139) mc_X11_leaks mv_X11_leaks ml_L_71 (by decide) g140 rfl rfl (Nat.le_of_ble_eq_true rfl) rfl ?_
                                refine ex_aload_n (q := 524) dL_law_523 rfl rfl ?_
                                obtain ⟨g142, hF⟩ := zg hF
                                obtain ⟨r141, h141, e141, hF⟩ := zb_some hF
                                refine ex_callV (d' := 0) (q := 527) (as := []) (st1 := [vi r141, vi r139]) (r := (some (vi r141))) (h2 := h141) dL_law_524 rfl (run_X12_leaks e141) mc_X12_leaks mv_X12_leaks ml_L_74 (by decide) g142 rfl rfl (Nat.le_of_ble_eq_true rfl) rfl ?_
                                refine ex_icmp_eq (q := 530) (tgt := 698) dL_law_527 rfl (by decide) (fun c143 => ?_) (fun c143 => ?_)
                                · have hF := ip c143 hF
                                  refine ex_iinc (q := 701) (lo' := [some (vr 103 0), some (vr 11 l1), some (vr 12 l2), some (vi (wI (l3 + 5)))]) dL_law_698 rfl rfl (by decide) rfl rfl ?_
                                  refine ex_goto (q := 18) dL_law_701 (by decide) ?_
                                  exact ex_forget (lo' := [some (vr 103 0), some (vr 11 l1), some (vr 12 l2), some (vi (wI (l3 + 5)))]) ⟨Or.inr rfl, Or.inr rfl, Or.inr rfl, Or.inr rfl, trivial⟩ (hag18 _ _ _ _ _ _ hF)
                                · have hF := im c143 hF
                                  refine ex_iconst (q := 531) dL_law_530 rfl ⟨by decide, by decide⟩ ?_
                                  obtain ⟨rfl, rfl⟩ := zr hF
                                  exact ex_ret (some (vi 0)) rfl ⟨dL_law_531, Or.inr ⟨rfl, (by decide)⟩⟩ ⟨rfl, rfl⟩
                              · have hF := im c138 hF
                                by_cases c144 : wA (gt h 103 0 l3) 31 = 14
                                · have hF := ip c144 hF
                                  refine ex_tsw 14 (tgt := 532) dL_law_32 c144 (by decide) (by decide) rfl (by decide) ?_
                                  refine ex_aload_n (q := 533) dL_law_532 rfl rfl ?_
                                  refine ex_aload_n (q := 534) dL_law_533 rfl rfl ?_
                                  refine ex_iload_n (q := 535) dL_law_534 rfl rfl ?_
                                  refine ex_iconst (q := 536) dL_law_535 rfl ⟨by decide, by decide⟩ ?_
                                  refine ex_iadd (q := 537) dL_law_536 rfl ?_
                                  obtain ⟨g145, hF⟩ := zg hF
                                  refine ex_ialdS (q := 538) dL_law_537 rfl (by decide) (by decide) g145.1 g145.2 ?_
                                  refine ex_aload_n (q := 539) dL_law_538 rfl rfl ?_
                                  refine ex_iload_n (q := 540) dL_law_539 rfl rfl ?_
                                  refine ex_iconst (q := 541) dL_law_540 rfl ⟨by decide, by decide⟩ ?_
                                  refine ex_iadd (q := 542) dL_law_541 rfl ?_
                                  obtain ⟨g146, hF⟩ := zg hF
                                  refine ex_ialdS (q := 543) dL_law_542 rfl (by decide) (by decide) g146.1 g146.2 ?_
                                  obtain ⟨g148, hF⟩ := zg hF
                                  obtain ⟨r147, h147, e147, hF⟩ := zb_some hF
                                  refine ex_callV (d' := 3) (q := 546) (as := [vi (gt h 103 0 (wI (l3 + 1))), vi (gt h 103 0 (wI (l3 + 2)))]) (st1 := [vi r147]) (r := (some (vi r147))) (h2 := h147) dL_law_543 rfl (run_X11_leak e147) mc_X11_leak mv_X11_leak ml_L_75 (by decide) g148 rfl rfl (Nat.le_of_ble_eq_true rfl) rfl ?_
                                  refine ex_aload_n (q := 547) dL_law_546 rfl rfl ?_
                                  refine ex_aload_n (q := 548) dL_law_547 rfl rfl ?_
                                  refine ex_iload_n (q := 549) dL_law_548 rfl rfl ?_
                                  refine ex_iconst (q := 550) dL_law_549 rfl ⟨by decide, by decide⟩ ?_
                                  refine ex_iadd (q := 551) dL_law_550 rfl ?_
                                  obtain ⟨g149, hF⟩ := zg hF
                                  refine ex_ialdS (q := 552) dL_law_551 rfl (by decide) (by decide) g149.1 g149.2 ?_
                                  refine ex_aload_n (q := 553) dL_law_552 rfl rfl ?_
                                  refine ex_iload_n (q := 554) dL_law_553 rfl rfl ?_
                                  refine ex_iconst (q := 555) dL_law_554 rfl ⟨by decide, by decide⟩ ?_
                                  refine ex_iadd (q := 556) dL_law_555 rfl ?_
                                  obtain ⟨g150, hF⟩ := zg hF
                                  refine ex_ialdS (q := 557) dL_law_556 rfl (by decide) (by decide) g150.1 g150.2 ?_
                                  obtain ⟨g152, hF⟩ := zg hF
                                  obtain ⟨r151, h151, e151, hF⟩ := zb_some hF
                                  refine ex_callV (d' := 1) (q := 560) (as := [vi (gt h147 103 0 (wI (l3 + 1))), vi (gt h147 103 0 (wI (l3 + 2)))]) (st1 := [vi r151, vi r147]) (r := (some (vi r151))) (h2 := h151) dL_law_557 rfl (run_X12_leak e151) mc_X12_leak mv_X12_leak ml_L_78 (by decide) g152 rfl rfl (Nat.le_of_ble_eq_true rfl) rfl ?_
                                  refine ex_icmp_eq (q := 563) (tgt := 698) dL_law_560 rfl (by decide) (fun c153 => ?_) (fun c153 => ?_)
                                  · have hF := ip c153 hF
                                    refine ex_iinc (q := 701) (lo' := [some (vr 103 0), some (vr 11 l1), some (vr 12 l2), some (vi (wI (l3 + 5)))]) dL_law_698 rfl rfl (by decide) rfl rfl ?_
                                    refine ex_goto (q := 18) dL_law_701 (by decide) ?_
                                    exact ex_forget (lo' := [some (vr 103 0), some (vr 11 l1), some (vr 12 l2), some (vi (wI (l3 + 5)))]) ⟨Or.inr rfl, Or.inr rfl, Or.inr rfl, Or.inr rfl, trivial⟩ (hag18 _ _ _ _ _ _ hF)
                                  · have hF := im c153 hF
                                    refine ex_iconst (q := 564) dL_law_563 rfl ⟨by decide, by decide⟩ ?_
                                    obtain ⟨rfl, rfl⟩ := zr hF
                                    exact ex_ret (some (vi 0)) rfl ⟨dL_law_564, Or.inr ⟨rfl, (by decide)⟩⟩ ⟨rfl, rfl⟩
                                · have hF := im c144 hF
                                  by_cases c154 : wA (gt h 103 0 l3) 31 = 15
                                  · have hF := ip c154 hF
                                    refine ex_tsw 15 (tgt := 565) dL_law_32 c154 (by decide) (by decide) rfl (by decide) ?_
                                    refine ex_aload_n (q := 566) dL_law_565 rfl rfl ?_
                                    refine ex_aload_n (q := 567) dL_law_566 rfl rfl ?_
                                    refine ex_iload_n (q := 568) dL_law_567 rfl rfl ?_
                                    refine ex_iconst (q := 569) dL_law_568 rfl ⟨by decide, by decide⟩ ?_
                                    refine ex_iadd (q := 570) dL_law_569 rfl ?_
                                    obtain ⟨g155, hF⟩ := zg hF
                                    refine ex_ialdS (q := 571) dL_law_570 rfl (by decide) (by decide) g155.1 g155.2 ?_
                                    refine ex_aload_n (q := 572) dL_law_571 rfl rfl ?_
                                    refine ex_iload_n (q := 573) dL_law_572 rfl rfl ?_
                                    refine ex_iconst (q := 574) dL_law_573 rfl ⟨by decide, by decide⟩ ?_
                                    refine ex_iadd (q := 575) dL_law_574 rfl ?_
                                    obtain ⟨g156, hF⟩ := zg hF
                                    refine ex_ialdS (q := 576) dL_law_575 rfl (by decide) (by decide) g156.1 g156.2 ?_
                                    refine ex_aload_n (q := 577) dL_law_576 rfl rfl ?_
                                    refine ex_iload_n (q := 578) dL_law_577 rfl rfl ?_
                                    refine ex_iconst (q := 579) dL_law_578 rfl ⟨by decide, by decide⟩ ?_
                                    refine ex_iadd (q := 580) dL_law_579 rfl ?_
                                    obtain ⟨g157, hF⟩ := zg hF
                                    refine ex_ialdS (q := 581) dL_law_580 rfl (by decide) (by decide) g157.1 g157.2 ?_
                                    obtain ⟨g159, hF⟩ := zg hF
                                    obtain ⟨r158, h158, e158, hF⟩ := zb_some hF
                                    refine ex_callV (d' := 3) (q := 584) (as := [vi (gt h 103 0 (wI (l3 + 1))), vi (gt h 103 0 (wI (l3 + 2))), vi (gt h 103 0 (wI (l3 + 3)))]) (st1 := [vi r158]) (r := (some (vi r158))) (h2 := h158) dL_law_581 rfl (run_X11_trace e158) mc_X11_trace mv_X11_trace ml_L_79 (by decide) g159 rfl rfl (Nat.le_of_ble_eq_true rfl) rfl ?_
                                    refine ex_aload_n (q := 585) dL_law_584 rfl rfl ?_
                                    refine ex_aload_n (q := 586) dL_law_585 rfl rfl ?_
                                    refine ex_iload_n (q := 587) dL_law_586 rfl rfl ?_
                                    refine ex_iconst (q := 588) dL_law_587 rfl ⟨by decide, by decide⟩ ?_
                                    refine ex_iadd (q := 589) dL_law_588 rfl ?_
                                    obtain ⟨g160, hF⟩ := zg hF
                                    refine ex_ialdS (q := 590) dL_law_589 rfl (by decide) (by decide) g160.1 g160.2 ?_
                                    refine ex_aload_n (q := 591) dL_law_590 rfl rfl ?_
                                    refine ex_iload_n (q := 592) dL_law_591 rfl rfl ?_
                                    refine ex_iconst (q := 593) dL_law_592 rfl ⟨by decide, by decide⟩ ?_
                                    refine ex_iadd (q := 594) dL_law_593 rfl ?_
                                    obtain ⟨g161, hF⟩ := zg hF
                                    refine ex_ialdS (q := 595) dL_law_594 rfl (by decide) (by decide) g161.1 g161.2 ?_
                                    refine ex_aload_n (q := 596) dL_law_595 rfl rfl ?_
                                    refine ex_iload_n (q := 597) dL_law_596 rfl rfl ?_
                                    refine ex_iconst (q := 598) dL_law_597 rfl ⟨by decide, by decide⟩ ?_
                                    refine ex_iadd (q := 599) dL_law_598 rfl ?_
                                    obtain ⟨g162, hF⟩ := zg hF
                                    refine ex_ialdS (q := 600) dL_law_599 rfl (by decide) (by decide) g162.1 g162.2 ?_
                                    obtain ⟨g164, hF⟩ := zg hF
                                    obtain ⟨r163, h163, e163, hF⟩ := zb_some hF
                                    refine ex_callV (d' := 1) (q := 603) (as := [vi (gt h158 103 0 (wI (l3 + 1))), vi (gt h158 103 0 (wI (l3 + 2))), vi (gt h158 103 0 (wI (l3 + 3)))]) (st1 := [vi r163, vi r158]) (r := (some (vi r163))) (h2 := h163) dL_law_600 rfl (run_X12_trace_ e163) mc_X12_trace_ mv_X12_trace_ ml_L_82 (by decide) g164 rfl rfl (Nat.le_of_ble_eq_true rfl) rfl ?_
                                    refine ex_icmp_eq (q := 606) (tgt := 698) dL_law_603 rfl (by decide) (fun c165 => ?_) (fun c165 => ?_)
                                    · have hF := ip c165 hF
                                      refine ex_iinc (q := 701) (lo' := [some (vr 103 0), some (vr 11 l1), some (vr 12 l2), some (vi (wI (l3 + 5)))]) dL_law_698 rfl rfl (by decide) rfl rfl ?_
                                      refine ex_goto (q := 18) dL_law_701 (by decide) ?_
                                      exact ex_forget (lo' := [some (vr 103 0), some (vr 11 l1), some (vr 12 l2), some (vi (wI (l3 + 5)))]) ⟨Or.inr rfl, Or.inr rfl, Or.inr rfl, Or.inr rfl, trivial⟩ (hag18 _ _ _ _ _ _ hF)
                                    · have hF := im c165 hF
                                      refine ex_iconst (q := 607) dL_law_606 rfl ⟨by decide, by decide⟩ ?_
                                      obtain ⟨rfl, rfl⟩ := zr hF
                                      exact ex_ret (some (vi 0)) rfl ⟨dL_law_607, Or.inr ⟨rfl, (by decide)⟩⟩ ⟨rfl, rfl⟩
                                  · have hF := im c154 hF
                                    by_cases c166 : wA (gt h 103 0 l3) 31 = 16
                                    · have hF := ip c166 hF
                                      refine ex_tsw 16 (tgt := 608) dL_law_32 c166 (by decide) (by decide) rfl (by decide) ?_
                                      refine ex_aload_n (q := 609) dL_law_608 rfl rfl ?_
                                      refine ex_aload_n (q := 610) dL_law_609 rfl rfl ?_
                                      refine ex_iload_n (q := 611) dL_law_610 rfl rfl ?_
                                      refine ex_iconst (q := 612) dL_law_611 rfl ⟨by decide, by decide⟩ ?_
                                      refine ex_iadd (q := 613) dL_law_612 rfl ?_
                                      obtain ⟨g167, hF⟩ := zg hF
                                      refine ex_ialdS (q := 614) dL_law_613 rfl (by decide) (by decide) g167.1 g167.2 ?_
                                      obtain ⟨g169, hF⟩ := zg hF
                                      obtain ⟨r168, h168, e168, hF⟩ := zb_some hF
                                      refine ex_callV (d' := 3) (q := 617) (as := [vi (gt h 103 0 (wI (l3 + 1)))]) (st1 := [vi r168]) (r := (some (vi r168))) (h2 := h168) dL_law_614 rfl (run_X11_giveBack e168) mc_X11_giveBack mv_X11_giveBack ml_L_83 (by decide) g169 rfl rfl (Nat.le_of_ble_eq_true rfl) rfl ?_
                                      refine ex_aload_n (q := 618) dL_law_617 rfl rfl ?_
                                      refine ex_aload_n (q := 619) dL_law_618 rfl rfl ?_
                                      refine ex_iload_n (q := 620) dL_law_619 rfl rfl ?_
                                      refine ex_iconst (q := 621) dL_law_620 rfl ⟨by decide, by decide⟩ ?_
                                      refine ex_iadd (q := 622) dL_law_621 rfl ?_
                                      obtain ⟨g170, hF⟩ := zg hF
                                      refine ex_ialdS (q := 623) dL_law_622 rfl (by decide) (by decide) g170.1 g170.2 ?_
                                      obtain ⟨g172, hF⟩ := zg hF
                                      obtain ⟨r171, h171, e171, hF⟩ := zb_some hF
                                      refine ex_callV (d' := 2) (q := 626) (as := [vi (gt h168 103 0 (wI (l3 + 1)))]) (st1 := [vi r171, vi r168]) (r := (some (vi r171))) (h2 := h171) dL_law_623 rfl (run_X12_giveBack_ e171) mc_X12_giveBack_ mv_X12_giveBack_ ml_L_86 (by decide) g172 rfl rfl (Nat.le_of_ble_eq_true rfl) rfl ?_
                                      refine ex_icmp_eq (q := 629) (tgt := 698) dL_law_626 rfl (by decide) (fun c173 => ?_) (fun c173 => ?_)
                                      · have hF := ip c173 hF
                                        refine ex_iinc (q := 701) (lo' := [some (vr 103 0), some (vr 11 l1), some (vr 12 l2), some (vi (wI (l3 + 5)))]) dL_law_698 rfl rfl (by decide) rfl rfl ?_
                                        refine ex_goto (q := 18) dL_law_701 (by decide) ?_
                                        exact ex_forget (lo' := [some (vr 103 0), some (vr 11 l1), some (vr 12 l2), some (vi (wI (l3 + 5)))]) ⟨Or.inr rfl, Or.inr rfl, Or.inr rfl, Or.inr rfl, trivial⟩ (hag18 _ _ _ _ _ _ hF)
                                      · have hF := im c173 hF
                                        refine ex_iconst (q := 630) dL_law_629 rfl ⟨by decide, by decide⟩ ?_
                                        obtain ⟨rfl, rfl⟩ := zr hF
                                        exact ex_ret (some (vi 0)) rfl ⟨dL_law_630, Or.inr ⟨rfl, (by decide)⟩⟩ ⟨rfl, rfl⟩
                                    · have hF := im c166 hF
                                      by_cases c174 : wA (gt h 103 0 l3) 31 = 17
                                      · have hF := ip c174 hF
                                        refine ex_tsw 17 (tgt := 631) dL_law_32 c174 (by decide) (by decide) rfl (by decide) ?_
                                        refine ex_aload_n (q := 632) dL_law_631 rfl rfl ?_
                                        refine ex_aload_n (q := 633) dL_law_632 rfl rfl ?_
                                        refine ex_iload_n (q := 634) dL_law_633 rfl rfl ?_
                                        refine ex_iconst (q := 635) dL_law_634 rfl ⟨by decide, by decide⟩ ?_
                                        refine ex_iadd (q := 636) dL_law_635 rfl ?_
                                        obtain ⟨g175, hF⟩ := zg hF
                                        refine ex_ialdS (q := 637) dL_law_636 rfl (by decide) (by decide) g175.1 g175.2 ?_
                                        refine ex_aload_n (q := 638) dL_law_637 rfl rfl ?_
                                        refine ex_iload_n (q := 639) dL_law_638 rfl rfl ?_
                                        refine ex_iconst (q := 640) dL_law_639 rfl ⟨by decide, by decide⟩ ?_
                                        refine ex_iadd (q := 641) dL_law_640 rfl ?_
                                        obtain ⟨g176, hF⟩ := zg hF
                                        refine ex_ialdS (q := 642) dL_law_641 rfl (by decide) (by decide) g176.1 g176.2 ?_
                                        obtain ⟨g178, hF⟩ := zg hF
                                        obtain ⟨r177, h177, e177, hF⟩ := zb_some hF
                                        refine ex_callV (d' := 1) (q := 645) (as := [vi (gt h 103 0 (wI (l3 + 1))), vi (gt h 103 0 (wI (l3 + 2)))]) (st1 := [vl r177]) (r := (some (vl r177))) (h2 := h177) dL_law_642 rfl (run_X11_cents e177) mc_X11_cents mv_X11_cents ml_L_87 (by decide) g178 rfl rfl (Nat.le_of_ble_eq_true rfl) rfl ?_
                                        refine ex_aload_n (q := 646) dL_law_645 rfl rfl ?_
                                        refine ex_aload_n (q := 647) dL_law_646 rfl rfl ?_
                                        refine ex_iload_n (q := 648) dL_law_647 rfl rfl ?_
                                        refine ex_iconst (q := 649) dL_law_648 rfl ⟨by decide, by decide⟩ ?_
                                        refine ex_iadd (q := 650) dL_law_649 rfl ?_
                                        obtain ⟨g179, hF⟩ := zg hF
                                        refine ex_ialdS (q := 651) dL_law_650 rfl (by decide) (by decide) g179.1 g179.2 ?_
                                        refine ex_aload_n (q := 652) dL_law_651 rfl rfl ?_
                                        refine ex_iload_n (q := 653) dL_law_652 rfl rfl ?_
                                        refine ex_iconst (q := 654) dL_law_653 rfl ⟨by decide, by decide⟩ ?_
                                        refine ex_iadd (q := 655) dL_law_654 rfl ?_
                                        obtain ⟨g180, hF⟩ := zg hF
                                        refine ex_ialdS (q := 656) dL_law_655 rfl (by decide) (by decide) g180.1 g180.2 ?_
                                        obtain ⟨g182, hF⟩ := zg hF
                                        obtain ⟨r181, h181, e181, hF⟩ := zb_some hF
                                        refine ex_callV (d' := 1) (q := 659) (as := [vi (gt h177 103 0 (wI (l3 + 1))), vi (gt h177 103 0 (wI (l3 + 2)))]) (st1 := [vl r181, vl r177]) (r := (some (vl r181))) (h2 := h181) dL_law_656 rfl (run_X12_cents e181) mc_X12_cents mv_X12_cents ml_L_91 (by decide) g182 rfl rfl (Nat.le_of_ble_eq_true rfl) rfl ?_
                                        refine ex_lcmp (q := 660) dL_law_659 rfl ?_
                                        refine ex_if_eq (q := 663) (tgt := 698) dL_law_660 rfl (by decide) (fun c183 => ?_) (fun c183 => ?_)
                                        · have hF := ip c183 hF
                                          refine ex_iinc (q := 701) (lo' := [some (vr 103 0), some (vr 11 l1), some (vr 12 l2), some (vi (wI (l3 + 5)))]) dL_law_698 rfl rfl (by decide) rfl rfl ?_
                                          refine ex_goto (q := 18) dL_law_701 (by decide) ?_
                                          exact ex_forget (lo' := [some (vr 103 0), some (vr 11 l1), some (vr 12 l2), some (vi (wI (l3 + 5)))]) ⟨Or.inr rfl, Or.inr rfl, Or.inr rfl, Or.inr rfl, trivial⟩ (hag18 _ _ _ _ _ _ hF)
                                        · have hF := im c183 hF
                                          refine ex_iconst (q := 664) dL_law_663 rfl ⟨by decide, by decide⟩ ?_
                                          obtain ⟨rfl, rfl⟩ := zr hF
                                          exact ex_ret (some (vi 0)) rfl ⟨dL_law_664, Or.inr ⟨rfl, (by decide)⟩⟩ ⟨rfl, rfl⟩
                                      · have hF := im c174 hF
                                        by_cases c184 : wA (gt h 103 0 l3) 31 = 18
                                        · have hF := ip c184 hF
                                          refine ex_tsw 18 (tgt := 665) dL_law_32 c184 (by decide) (by decide) rfl (by decide) ?_
                                          refine ex_aload_n (q := 666) dL_law_665 rfl rfl ?_
                                          refine ex_aload_n (q := 667) dL_law_666 rfl rfl ?_
                                          refine ex_iload_n (q := 668) dL_law_667 rfl rfl ?_
                                          refine ex_iconst (q := 669) dL_law_668 rfl ⟨by decide, by decide⟩ ?_
                                          refine ex_iadd (q := 670) dL_law_669 rfl ?_
                                          obtain ⟨g185, hF⟩ := zg hF
                                          refine ex_ialdS (q := 671) dL_law_670 rfl (by decide) (by decide) g185.1 g185.2 ?_
                                          refine ex_aload_n (q := 672) dL_law_671 rfl rfl ?_
                                          refine ex_iload_n (q := 673) dL_law_672 rfl rfl ?_
                                          refine ex_iconst (q := 674) dL_law_673 rfl ⟨by decide, by decide⟩ ?_
                                          refine ex_iadd (q := 675) dL_law_674 rfl ?_
                                          obtain ⟨g186, hF⟩ := zg hF
                                          refine ex_ialdS (q := 676) dL_law_675 rfl (by decide) (by decide) g186.1 g186.2 ?_
                                          obtain ⟨g188, hF⟩ := zg hF
                                          obtain ⟨r187, h187, e187, hF⟩ := zb_some hF
                                          refine ex_callV (d' := 2) (q := 679) (as := [vi (gt h 103 0 (wI (l3 + 1))), vi (gt h 103 0 (wI (l3 + 2)))]) (st1 := [vi r187]) (r := (some (vi r187))) (h2 := h187) dL_law_676 rfl (run_X11_log e187) mc_X11_log mv_X11_log ml_L_92 (by decide) g188 rfl rfl (Nat.le_of_ble_eq_true rfl) rfl ?_
                                          refine ex_aload_n (q := 680) dL_law_679 rfl rfl ?_
                                          refine ex_aload_n (q := 681) dL_law_680 rfl rfl ?_
                                          refine ex_iload_n (q := 682) dL_law_681 rfl rfl ?_
                                          refine ex_iconst (q := 683) dL_law_682 rfl ⟨by decide, by decide⟩ ?_
                                          refine ex_iadd (q := 684) dL_law_683 rfl ?_
                                          obtain ⟨g189, hF⟩ := zg hF
                                          refine ex_ialdS (q := 685) dL_law_684 rfl (by decide) (by decide) g189.1 g189.2 ?_
                                          refine ex_aload_n (q := 686) dL_law_685 rfl rfl ?_
                                          refine ex_iload_n (q := 687) dL_law_686 rfl rfl ?_
                                          refine ex_iconst (q := 688) dL_law_687 rfl ⟨by decide, by decide⟩ ?_
                                          refine ex_iadd (q := 689) dL_law_688 rfl ?_
                                          obtain ⟨g190, hF⟩ := zg hF
                                          refine ex_ialdS (q := 690) dL_law_689 rfl (by decide) (by decide) g190.1 g190.2 ?_
                                          obtain ⟨g192, hF⟩ := zg hF
                                          obtain ⟨r191, h191, e191, hF⟩ := zb_some hF
                                          refine ex_callV (d' := 1) (q := 693) (as := [vi (gt h187 103 0 (wI (l3 + 1))), vi (gt h187 103 0 (wI (l3 + 2)))]) (st1 := [vi r191, vi r187]) (r := (some (vi r191))) (h2 := h191) dL_law_690 rfl (run_X12_log e191) mc_X12_log mv_X12_log ml_L_95 (by decide) g192 rfl rfl (Nat.le_of_ble_eq_true rfl) rfl ?_
                                          refine ex_icmp_eq (q := 696) (tgt := 698) dL_law_693 rfl (by decide) (fun c193 => ?_) (fun c193 => ?_)
                                          · have hF := ip c193 hF
                                            refine ex_iinc (q := 701) (lo' := [some (vr 103 0), some (vr 11 l1), some (vr 12 l2), some (vi (wI (l3 + 5)))]) dL_law_698 rfl rfl (by decide) rfl rfl ?_
                                            refine ex_goto (q := 18) dL_law_701 (by decide) ?_
                                            exact ex_forget (lo' := [some (vr 103 0), some (vr 11 l1), some (vr 12 l2), some (vi (wI (l3 + 5)))]) ⟨Or.inr rfl, Or.inr rfl, Or.inr rfl, Or.inr rfl, trivial⟩ (hag18 _ _ _ _ _ _ hF)
                                          · have hF := im c193 hF
                                            refine ex_iconst (q := 697) dL_law_696 rfl ⟨by decide, by decide⟩ ?_
                                            obtain ⟨rfl, rfl⟩ := zr hF
                                            exact ex_ret (some (vi 0)) rfl ⟨dL_law_697, Or.inr ⟨rfl, (by decide)⟩⟩ ⟨rfl, rfl⟩
                                        · have hF := im c184 hF
                                          refine ex_tswD (tgt := 698) dL_law_32 (by omega) (by decide) ?_
                                          refine ex_iinc (q := 701) (lo' := [some (vr 103 0), some (vr 11 l1), some (vr 12 l2), some (vi (wI (l3 + 5)))]) dL_law_698 rfl rfl (by decide) rfl rfl ?_
                                          refine ex_goto (q := 18) dL_law_701 (by decide) ?_
                                          exact ex_forget (lo' := [some (vr 103 0), some (vr 11 l1), some (vr 12 l2), some (vi (wI (l3 + 5)))]) ⟨Or.inr rfl, Or.inr rfl, Or.inr rfl, Or.inr rfl, trivial⟩ (hag18 _ _ _ _ _ _ hF)
def F_L_law_18 : Nat → Int → Int → Int → zH → zO
  | 0, _, _, _, _ => none
  | n + 1, l1, l2, l3, h => F_L_law_18b (F_L_law_18 n) l1 l2 l3 h
theorem x_L_law_18 : ∀ (n : Nat) (l1 l2 l3 : Int) (h : zH) (r : Int) (h' : zH), F_L_law_18 n l1 l2 l3 h = some (r, h') → Ex 9 M_L_law 18 [some (vr 103 0), some (vr 11 l1), some (vr 12 l2), some (vi l3)] [] h (fun r1 h1 => r1 = some (vi r) ∧ h1 = h')
  | 0, _, _, _, _, _, _, hF => by cases hF
  | n + 1, _, _, _, _, _, _, hF => x_L_law_18b (x_L_law_18 n) hF
def F_L_law_0 (h : zH) : zO := if 0 ≤ cn h 11 then (zb (F_X11_init (cn h 11) (nw h 11 4)) (fun r1 h1 => if 0 ≤ cn h1 12 then (zb (F_X12_init (cn h1 12) (nw h1 12 68)) (fun r3 h3 => F_L_law_18 zF (cn h 11) (cn h1 12) 0 h3)) else none)) else none
set_option maxHeartbeats 1000000 in
theorem x_L_law_0 {h : zH} {r : Int} {h' : zH} (hF : F_L_law_0  h = some (r, h')) : Ex 9 M_L_law 0 [some (vr 103 0), none, none, none] [] h (fun r1 h1 => r1 = some (vi r) ∧ h1 = h') := by
  unfold F_L_law_0 at hF
  refine ex_new (q := 3) (c := 11) (n := cn h 11) dL_law_0 rfl (by decide) rfl (zTbl_i 90 (by decide +kernel) (by decide +kernel)) (zTbl_i 91 (by decide +kernel) (by decide +kernel)) (zTbl_i 76 (by decide +kernel) (by decide +kernel)) rfl ?_
  refine ex_dup (q := 4) dL_law_3 rfl (fun _ z => by cases z) ?_
  obtain ⟨g2, hF⟩ := zg hF
  obtain ⟨r1, h1, e1, hF⟩ := zb_some hF
  refine ex_callI (d' := 3) (q := 7) (as := []) (st1 := [vr 11 (cn h 11)]) (r := none) (h2 := h1) dL_law_4 rfl (run_X11_init e1) mc_X11_init mi_X11_init ml_L_9 (by decide) (by decide) g2 rfl rfl (Nat.le_of_ble_eq_true rfl) rfl ?_
  refine ex_astore_n (q := 8) (lo' := [some (vr 103 0), some (vr 11 (cn h 11)), none, none]) dL_law_7 rfl (by decide) rfl rfl ?_
  refine ex_new (q := 11) (c := 12) (n := cn h1 12) dL_law_8 rfl (by decide) rfl (zTbl_i 936 (by decide +kernel) (by decide +kernel)) (zTbl_i 937 (by decide +kernel) (by decide +kernel)) (zTbl_i 87 (by decide +kernel) (by decide +kernel)) rfl ?_
  refine ex_dup (q := 12) dL_law_11 rfl (fun _ z => by cases z) ?_
  obtain ⟨g4, hF⟩ := zg hF
  obtain ⟨r3, h3, e3, hF⟩ := zb_some hF
  refine ex_callI (d' := 1) (q := 15) (as := []) (st1 := [vr 12 (cn h1 12)]) (r := none) (h2 := h3) dL_law_12 rfl (run_X12_init e3) mc_X12_init mi_X12_init ml_L_12 (by decide) (by decide) g4 rfl rfl (Nat.le_of_ble_eq_true rfl) rfl ?_
  refine ex_astore_n (q := 16) (lo' := [some (vr 103 0), some (vr 11 (cn h 11)), some (vr 12 (cn h1 12)), none]) dL_law_15 rfl (by decide) rfl rfl ?_
  refine ex_iconst (q := 17) dL_law_16 rfl ⟨by decide, by decide⟩ ?_
  refine ex_istore_n (q := 18) (lo' := [some (vr 103 0), some (vr 11 (cn h 11)), some (vr 12 (cn h1 12)), some (vi 0)]) dL_law_17 rfl (by decide) rfl rfl ?_
  exact ex_forget (lo' := [some (vr 103 0), some (vr 11 (cn h 11)), some (vr 12 (cn h1 12)), some (vi 0)]) ⟨Or.inr rfl, Or.inr rfl, Or.inr rfl, Or.inr rfl, trivial⟩ (x_L_law_18 _ _ _ _ _ _ _ hF)

/-! MARKS that are reached -/
theorem js_gone {ops as bs : Int → Int} {n : Nat} (h : jf ops as bs n = 0) {L : Int} {q : Nat} (Lq : L < q) (g : ∀ x ∈ js ops as bs q, x.1 ≠ L) : ∀ d : Nat, q + d ≤ n → ∀ x ∈ js ops as bs (q + d), x.1 ≠ L
  | 0, _ => g
  | d + 1, l => by
    have ih := js_gone h Lq g d (by omega)
    have e := (js_s h (show q + d < n by omega)).1
    have e : js ops as bs (q + (d + 1)) = jnx ops ((q + d : Nat) : Int) (js ops as bs (q + d)) := e
    rw [e]
    intro x hx
    by_cases c : ops ((q + d : Nat) : Int) = 16
    · rw [jnx_16 c] at hx
      exact ih x (List.mem_of_mem_tail hx)
    · by_cases c2 : ops ((q + d : Nat) : Int) = 14 ∨ ops ((q + d : Nat) : Int) = 15
      · cases hs : js ops as bs (q + d) with
        | nil =>
          rw [hs] at hx
          unfold jnx at hx
          rw [if_neg c, if_pos c2] at hx
          cases hx
        | cons e t =>
          rw [hs, jnx_14 c2] at hx
          rw [hs] at ih
          rcases List.mem_cons.mp hx with y | y
          · rw [y]
            exact ih e (List.mem_cons_self ..)
          · exact ih x (List.mem_cons_of_mem _ y)
      · by_cases c3 : ops ((q + d : Nat) : Int) = 11 ∨ ops ((q + d : Nat) : Int) = 12 ∨ ops ((q + d : Nat) : Int) = 13
        · rw [jnx_11 c3] at hx
          rcases List.mem_cons.mp hx with y | y
          · rw [y]
            show ((q + d : Nat) : Int) ≠ L
            omega
          · exact ih x y
        · rw [jnx_o c3 (fun z => by rcases z with z | z | z; exact c2 (Or.inl z); exact c2 (Or.inr z); exact c z)] at hx
          exact ih x hx
/-- a BLOCK has one END, and nothing of it lies behind -/
theorem end_le {hc hr : zH} {a : Int} {n L t w : Nat} {cx : zK} {mm : Int} (s : zS hc hr a n) (hL : zjs hc a L = cx) (Lt : L < t) (tw : t < w) (wn : w ≤ n) (o : gt hc 43 (a + 1) t = 16) (e1 : zjs hc a (t + 1) = cx) (e2 : zjs hc a w = ((L : Int), mm) :: cx) : False := by
  have s4 := s.2.2.2
  have I := (jst_in (gt hc 43 (a + 1)) (gt hc 44 (a + 1)) (gt hc 45 (a + 1)) L).1
  have g : ∀ x ∈ zjs hc a (t + 1), x.1 ≠ (L : Int) := fun x hx => by
    rw [e1, ← hL] at hx
    have := I x hx
    omega
  have G := js_gone s4.1 (L := L) (q := t + 1) (by omega) g (w - (t + 1)) (by omega)
  rw [show t + 1 + (w - (t + 1)) = w by omega] at G
  have e2' : js (gt hc 43 (a + 1)) (gt hc 44 (a + 1)) (gt hc 45 (a + 1)) w = ((L : Int), mm) :: cx := e2
  rw [e2'] at G
  exact G _ (List.mem_cons_self ..) rfl
/-- what goOn comes to -/
theorem r_on {hc hr : zH} {a act : Int} {t m : Nat} (a2 : PIr hr) (R : RSx hc hr) (e67 : gt hr 12 0 67 = a) (a0 : 0 ≤ a) (a1 : a < 150) (e70 : gt hr 70 0 a = act) (e72 : gt hr 72 0 a = t) (s : zS hc hr act m) (tm : t ≤ m) :
    F_X12_goOn 0 hr = if t = m then some (0, pt hr 12 0 52 1) else (if gt hc 43 (act + 1) t = 16 then zb (F_X12_endBlock 0 t hr) (fun _ h => some (0, h)) else (if gt hc 43 (act + 1) t = 14 ∨ gt hc 43 (act + 1) t = 15 then zb (F_X12_leaveTry 0 hr) (fun _ h => some (0, h)) else zb (F_X12_step 0 hr) (fun r13 h13 => if r13 = 0 then (some (0, h13)) else (if 0 ≤ gt h13 12 0 31 then (if 0 ≤ gt h13 12 0 67 ∧ gt h13 12 0 67 < 150 then (zb (F_X12_doLine 0 act t (pt h13 73 (gt h13 12 0 31) (gt h13 12 0 67) t)) (fun _ h17 => some (0, h17))) else none) else none)))) := by
  obtain ⟨k1, k2, k3, k4, k5⟩ := s.e R
  have s0 := s.1
  have s3 := s.2.2.1
  have ab : 0 ≤ a ∧ a < 150 := ⟨a0, a1⟩
  have nb : 0 ≤ act ∧ act < 12 := ⟨s0, k1⟩
  unfold F_X12_goOn F_X12_goOn_0
  rw [if_pos (Int.le_refl 0), pr_28 a2, if_pos (Int.le_refl 0), e67, if_pos ab, pr_30 a2, if_pos (Int.le_refl 0), pr_17 a2, if_pos (Int.le_refl 0), e70, if_pos nb, e72, ← s3]
  by_cases z : t = m
  · have z' : ¬ ((t : Int) ≠ (m : Int)) := by omega
    rw [if_neg z', if_pos z]
  · have z' : (t : Int) ≠ (m : Int) := by omega
    have tm' : t < m := by omega
    obtain ⟨q1, q2⟩ := s_ei s0 k1 (show t < 40 by omega)
    rw [if_pos z', if_neg z, pr_18 a2, if_pos (Int.le_refl 0), q1, if_pos q2, (k4 t tm').1]
    by_cases o : gt hc 43 (act + 1) t = 16
    · have o' : ¬ (gt hc 43 (act + 1) t ≠ 16) := by simpa using o
      rw [if_neg o', if_pos o]
    · rw [if_pos o, if_neg o]
      unfold F_X12_goOn_74
      by_cases o4 : gt hc 43 (act + 1) t = 14
      · have o4' : gt hc 43 (act + 1) t = 14 ∨ gt hc 43 (act + 1) t = 15 := Or.inl o4
        rw [if_pos o4, if_pos o4', if_pos (Int.le_refl 0)]
      · by_cases o5 : gt hc 43 (act + 1) t = 15
        · have o5' : ¬ (gt hc 43 (act + 1) t ≠ 15) := by simpa using o5
          have o4' : gt hc 43 (act + 1) t = 14 ∨ gt hc 43 (act + 1) t = 15 := Or.inr o5
          rw [if_neg o4, if_neg o5', if_pos o4', if_pos (Int.le_refl 0)]
        · have o4' : ¬ (gt hc 43 (act + 1) t = 14 ∨ gt hc 43 (act + 1) t = 15) := by omega
          rw [if_neg o4, if_pos o5, if_neg o4']
/-- the class's BLOCK that is the latest -/
theorem c_mark {h : zH} {k op : Int} {b' : Nat} (a1 : PIc h) (a4 : SC h) (e5 : gt h 8 0 5 = (b' : Int) + 1) (b90 : b' < 90) (e0 : gt h 0 ((b' : Int) + 1) 0 = op) :
    F_X8_reachMark 0 k h = (if op = 11 then zb (F_X8_endTurn 0 k ((b' : Int) + 1) h) (fun _ h => some (0, h)) else if op = 12 then zb (F_X8_endScopeBlock 0 k h) (fun _ h => some (0, h)) else if op = 13 then (if gt h 0 ((b' : Int) + 1) 3 ≠ 2 then zb (F_X8_leaveWay 0 k ((b' : Int) + 1) h) (fun _ h => some (0, h)) else zb (F_X8_endLastWay 0 k ((b' : Int) + 1) h) (fun _ h => some (0, h))) else some (0, pt h 8 0 12 1)) ∧
    F_X8_leave 0 k h = (if op = 11 then zb (F_X8_leaveLoop 0 k ((b' : Int) + 1) h) (fun _ h => some (0, h)) else if op = 12 then zb (F_X8_endScopeBlock 0 k h) (fun _ h => some (0, h)) else if op = 13 then zb (F_X8_leaveTry 0 k ((b' : Int) + 1) h) (fun _ h => some (0, h)) else zb (F_X8_leaveAct 0 h) (fun _ h => some (0, h))) := by
  have bb : 0 ≤ (b' : Int) + 1 ∧ (b' : Int) + 1 < 91 := by omega
  have e40 := (a4.2.1 ((b' : Int) + 1) bb.1 bb.2).1
  unfold F_X8_reachMark F_X8_reachMark_0 F_X8_leave F_X8_leave_0
  rw [if_pos (Int.le_refl 0), pc_8_4 a1, if_pos (Int.le_refl 0), e5, if_pos bb, e40, if_pos bb.1, e0, if_pos (Int.le_refl 0), if_pos (Int.le_refl 0), if_pos bb, if_pos bb.1]
  exact ⟨rfl, rfl⟩

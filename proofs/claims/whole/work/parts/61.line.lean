/-! the LINES by their OPS -/
/-- the reference's row of OPS, behind its goTo -/
def DLn (op a0 b0 ba ac t : Int) (hr : zH) : zO := if op = 0 ∨ op = 2 then (zb (F_X12_noPart 0 b0 hr) (fun r8 h8 => if r8 ≠ 0 then (F_X12_doLine_143 0 t b0 h8) else (if 0 ≤ gt h8 12 0 3 then (if 0 ≤ b0 ∧ b0 < 60 then (if gt h8 52 (gt h8 12 0 3) b0 = 0 then (if op ≠ 2 then (zb (F_X12_newLoan 0 b0 0 (-1) h8) (fun r14 h14 => if 0 ≤ gt h8 12 0 32 then (if 0 ≤ wI (ba + a0) ∧ wI (ba + a0) < 88 then (zl (pt h14 74 (gt h8 12 0 32) (wI (ba + a0)) r14) (fun k17 => if op ≠ 2 then (some (0, k17)) else (if 0 ≤ gt k17 12 0 32 then (zb (F_X12_trace 0 (gt k17 74 (gt k17 12 0 32) (wI (ba + a0))) k17) (fun r20 h20 => some (0, h20))) else none))) else none) else none)) else (zb (F_X12_newLoan 0 b0 1 (-1) h8) (fun r21 h21 => if 0 ≤ gt h8 12 0 32 then (if 0 ≤ wI (ba + a0) ∧ wI (ba + a0) < 88 then (zl (pt h21 74 (gt h8 12 0 32) (wI (ba + a0)) r21) (fun k24 => if op ≠ 2 then (some (0, k24)) else (if 0 ≤ gt k24 12 0 32 then (zb (F_X12_trace 0 (gt k24 74 (gt k24 12 0 32) (wI (ba + a0))) k24) (fun r27 h27 => some (0, h27))) else none))) else none) else none))) else (F_X12_doLine_143 0 t b0 h8)) else none) else none))) else (if op = 1 then (F_X12_doLine_206 zF 0 t a0 b0 ba 0 hr) else (if op = 3 ∨ op = 4 ∨ op = 5 ∨ op = 6 then (if 0 ≤ gt hr 12 0 32 then (if 0 ≤ wI (ba + a0) ∧ wI (ba + a0) < 88 then (zb (F_X12_doSlot 0 op t (gt hr 74 (gt hr 12 0 32) (wI (ba + a0))) b0 ba hr) (fun r32 h32 => some (0, h32))) else none) else none) else (if op = 7 then (if gt hr 12 0 33 ≠ 10 then (if 0 ≤ gt hr 12 0 32 then (if 0 ≤ wI (ba + b0) ∧ wI (ba + b0) < 88 then (zb (F_X12_noAct 0 a0 hr) (fun r37 h37 => if r37 ≠ 0 then (F_X12_doLine_380 0 t a0 (gt hr 74 (gt hr 12 0 32) (wI (ba + b0))) 0 h37) else (zb (F_X12_judge 0 a0 h37) (fun r41 h41 => if gt h41 12 0 21 ≠ 0 then (F_X12_doLine_380 0 t a0 (gt hr 74 (gt hr 12 0 32) (wI (ba + b0))) 0 h41) else (F_X12_doLine_380 0 t a0 (gt hr 74 (gt hr 12 0 32) (wI (ba + b0))) 1 h41))))) else none) else none) else (zb (F_X12_fail 0 8 t (-1) hr) (fun r43 h43 => some (0, h43)))) else (if op = 8 then (zb (F_X12_fail 0 a0 t (-1) hr) (fun r45 h45 => some (0, h45))) else (if op = 9 then (some (0, (pt hr 12 0 52 1))) else (if op = 10 then (some (0, (pt hr 12 0 52 2))) else (if op = 11 then (if a0 ≠ 0 then (zb (F_X12_begin 0 11 t (wI (a0 - 1)) hr) (fun r50 h50 => some (0, h50))) else (zb (F_X12_endOf 0 ac t hr) (fun r51 h51 => zb (F_X12_goTo 0 (wI (r51 + 1)) h51) (fun r52 h52 => some (0, h52))))) else (if op = 12 then (zb (F_X12_beginScope 0 t hr) (fun r54 h54 => some (0, h54))) else (zb (F_X12_begin 0 13 t 0 hr) (fun r55 h55 => some (0, h55)))))))))))
theorem r_dl {h : zH} {op a0 b0 ac k a : Int} {t : Nat} (a2 : PIr h) (ac0 : 0 ≤ ac) (ac1 : ac < 12) (t40 : t < 40) (e67 : gt h 12 0 67 = a) (aa : 0 ≤ a) (ab : a < 150) (e63 : gt h 63 0 (40 * ac + t) = op) (e64 : gt h 64 0 (40 * ac + t) = a0) (e65 : gt h 65 0 (40 * ac + t) = b0) (e33 : gt h 12 0 33 = k) (kb : 1 ≤ k ∧ k ≤ 10) :
    F_X12_doLine 0 ac t h = DLn op a0 b0 (8 * (k - 1)) ac t (pt h 72 0 a ((t : Int) + 1)) := by
  obtain ⟨ei, eb⟩ := s_ei ac0 ac1 t40
  have rt : -1000000 ≤ (t : Int) + 1 ∧ (t : Int) + 1 ≤ 1000000 := by omega
  have rk : -1000000 ≤ k - 1 ∧ k - 1 ≤ 1000000 := by omega
  have rk8 : -1000000 ≤ 8 * (k - 1) ∧ 8 * (k - 1) ≤ 1000000 := by omega
  unfold F_X12_doLine F_X12_doLine_0
  rw [if_pos (Int.le_refl 0), pr_18 a2, if_pos (Int.le_refl 0), ei, if_pos eb, pr_19 a2, if_pos (Int.le_refl 0), pr_20 a2, if_pos (Int.le_refl 0), wI_s rt, s_goTo a2 e67 aa ab, e63, e64, e65, e33, wI_s rk, wI_s rk8]
  rfl
theorem c_in {h : zH} {k s : Int} (a4 : SC h) (kb : 1 ≤ k ∧ k ≤ 10) (sl : 0 ≤ s ∧ s < 8) : F_X1_in k s h = some (gt h 20 k s, h) := by
  have e := (a4.1 k (by omega) (by omega)).2
  unfold F_X1_in F_X1_in_0
  rw [s_within, if_pos sl]
  simp only [zb]
  rw [if_neg (by decide), if_pos (by omega), e, if_pos (by omega), if_pos sl]
theorem m_line {B : Int} {n : Nat} {S c op : Int} {sid : Int → Int} {b : Nat} {k a : Int} {cx : zK} {hc hr : zH} {t m : Nat} (X : RB B n S c sid b k a cx hc hr) (I : LI k a t m cx hc hr) (E : SX n b hc hr) {h : zH} (a2 : PIr h) (eh : hr = pt h 72 0 a ((t : Int) + 1)) (eo : gt hc 43 (gt hc 1 k 1 + 1) t = op) (nm : ¬ zMk op) :
    ∃ hc' hr', F_X8_doLine 0 k op hc = some (0, hc') ∧ F_X12_doLine 0 (gt hc 1 k 1) t h = some (0, hr') ∧ RES B c (2 * b + 3 + 4 * (160 - gt hc 8 0 14)) hc' hr' := by
  obtain ⟨x1, x2, x3, x4, x5, x6, x7, x8, x9, x10, x11, x12, x13, x14, x15, x16, x17, x18⟩ := X.at
  have C := X.1
  have a4 := C.2.2.2.1
  have d2 := C.2.1
  have R := C.2.2.2.2.2.2.2.2.2.1
  obtain ⟨i1, i2, i3, i4, i5, i6, i7, i8⟩ := id I
  obtain ⟨e1, e2, e3, e4, e5⟩ := i4.e R
  have ac0 := i4.1
  have acn := i4.2.1
  have k3 := R.2.2.1
  obtain ⟨j0, j1, j2, j3⟩ := zj_b i4 i5
  obtain ⟨w63, w64, w65⟩ := e4 t i5
  obtain ⟨a0, ha0⟩ : ∃ x, x = gt hc 44 (gt hc 1 k 1 + 1) t := ⟨_, rfl⟩
  obtain ⟨b0, hb0⟩ : ∃ x, x = gt hc 45 (gt hc 1 k 1 + 1) t := ⟨_, rfl⟩
  rw [eo] at j0 j1 j2 j3 w63
  rw [← ha0] at j2 w64
  rw [← hb0] at j3 w65
  have t40 : t < 40 := by omega
  have gh : ∀ (d : Nat) (j : Int), d ≠ 72 → gt hr d 0 j = gt h d 0 j := fun d j z => by rw [eh]; simp [gt_pt, z]
  have rd := r_dl (op := op) (a0 := a0) (b0 := b0) (k := k) (a := a) a2 ac0 e1 t40 (by rw [← gh 12 67 (by decide)]; exact x3) x1 x2 (by rw [← gh 63 _ (by decide)]; exact w63) (by rw [← gh 64 _ (by decide)]; exact w64) (by rw [← gh 65 _ (by decide)]; exact w65) (by rw [← gh 12 33 (by decide)]; exact X.2.2.2.2.1.1.2.2.2.2.1) ⟨x7, x8⟩
  rw [← eh] at rd
  have tb : 0 ≤ (t : Int) ∧ (t : Int) < gt hc 10 (gt hc 1 k 1 + 1) 4 := by rw [e3]; omega
  obtain ⟨sO, sA, sB, sN⟩ := s_at4 (k := t) a4 (show 1 ≤ gt hc 1 k 1 + 1 by omega) (show gt hc 1 k 1 + 1 ≤ gt hc 11 0 2 by omega) (by omega)
  rw [if_pos tb, ← ha0] at sA
  rw [if_pos tb, ← hb0] at sB
  have SLk := X.2.2.2.2.2
  have q16 : gt hr 12 0 16 = gt hc 11 0 2 := R.1
  -- the class, behind a and b
  have cd : ∀ (Q : zO), (zb (F_X10_aAt (gt hc 1 k 1 + 1) t hc) fun r2 h2 => if 0 ≤ gt h2 1 k 0 then (zb (F_X10_bAt (gt h2 1 k 0) (gt h2 1 k 2) h2) (fun r4 h4 => if op = 0 then (if (0 : Int) ≤ 0 then (zb (F_X8_borrow 0 k r2 r4 0 h4) (fun r7 h7 => F_X8_doLine_223 0 k op h7)) else none) else (if op = 1 then (if (0 : Int) ≤ 0 then (zb (F_X8_take 0 k r2 r4 h4) (fun r10 h10 => F_X8_doLine_223 0 k op h10)) else none) else (if op = 2 then (if (0 : Int) ≤ 0 then (zb (F_X8_borrow 0 k r2 r4 1 h4) (fun r13 h13 => F_X8_doLine_223 0 k op h13)) else none) else (if op = 3 then (zb (F_X1_in k r2 h4) (fun r16 h16 => if (0 : Int) ≤ 0 then (zb (F_X8_use 0 k r16 h16) (fun r17 h17 => F_X8_doLine_223 0 k op h17)) else none)) else (if op = 4 then (zb (F_X1_in k r2 h4) (fun r20 h20 => if (0 : Int) ≤ 0 then (zb (F_X8_bringBack 0 k r20 h20) (fun r21 h21 => F_X8_doLine_223 0 k op h21)) else none)) else (if op = 5 then (zb (F_X1_in k r2 h4) (fun r24 h24 => if (0 : Int) ≤ 0 then (zb (F_X8_lendOn 0 k r24 r4 h24) (fun r25 h25 => F_X8_doLine_223 0 k op h25)) else none)) else (if op = 6 then (zb (F_X1_in k r2 h4) (fun r28 h28 => if (0 : Int) ≤ 0 then (zb (F_X8_passOn 0 k r28 r4 h28) (fun r29 h29 => F_X8_doLine_223 0 k op h29)) else none)) else (if op = 7 then (zb (F_X1_in k r4 h4) (fun r32 h32 => if (0 : Int) ≤ 0 then (zb (F_X8_callAct 0 k r2 r32 h32) (fun r33 h33 => F_X8_doLine_223 0 k op h33)) else none)) else (if op = 8 then (if (0 : Int) ≤ 0 then (zb (F_X8_fail 0 k r2 (-1) h4) (fun r36 h36 => F_X8_doLine_223 0 k op h36)) else none) else (if op = 9 then (if (0 : Int) ≤ 0 then (F_X8_doLine_223 0 k op (pt h4 8 0 12 1)) else none) else (if op = 10 then (if (0 : Int) ≤ 0 then (F_X8_doLine_223 0 k op (pt h4 8 0 12 2)) else none) else (if (0 : Int) ≤ 0 then (zb (F_X8_beginBlock 0 k op r2 h4) (fun r42 h42 => F_X8_doLine_223 0 k op h42)) else none))))))))))))) else none) = Q → F_X8_doLine 0 k op hc = Q := fun Q hq => by
    rw [← hq]
    unfold F_X8_doLine F_X8_doLine_0
    rw [if_pos (show 0 ≤ k by omega), x6, if_pos (show 0 ≤ gt hc 1 k 1 + 1 by omega), i1]
  rw [sA] at cd
  simp only [zb] at cd
  rw [x6, i1, if_pos (show 0 ≤ gt hc 1 k 1 + 1 by omega), sB] at cd
  simp only [if_pos (Int.le_refl (0 : Int))] at cd
  have slot : ∀ s, 0 ≤ s → s < 8 → gt hc 20 k s = gt hr 74 0 (8 * (k - 1) + s) ∧ -1 ≤ gt hc 20 k s ∧ gt hc 20 k s < n := fun s s0 s8 => SLk k s x7 (Int.le_refl k) s0 s8
  have rb : ∀ s, 0 ≤ s → s < 8 → (0 ≤ 8 * (k - 1) + s ∧ 8 * (k - 1) + s < 88) ∧ wI (8 * (k - 1) + s) = 8 * (k - 1) + s := fun s s0 s8 => ⟨by omega, wI_s ⟨by omega, by omega⟩⟩
  have pr32 := pr_32 d2
  have zz : ∀ o : Int, op = o → ¬ zMk o → ¬ (o = 11 ∨ o = 12 ∨ o = 13) → zjs hc (gt hc 1 k 1) (t + 1) = cx := fun o z1 z2 z3 => zj_o i4 i5 i6 (by rw [eo, z1]; exact z3) (by rw [eo, z1]; exact z2)
  have way : ∀ v : Int, v = 1 ∨ v = 2 → ∃ hc' hr', F_X8_doLine_223 0 k op (pt hc 8 0 12 v) = some (0, hc') ∧ some ((0 : Int), pt hr 12 0 52 v) = some (0, hr') ∧ RES B c (2 * b + 3 + 4 * (160 - gt hc 8 0 14)) hc' hr' := fun v hv => by
    have xc : zFx [] [(8, 12)] hc (pt hc 8 0 12 v) := (zFx.rf hc).p2 rfl
    have xr : zFx [] [(12, 52)] hr (pt hr 12 0 52 v) := (zFx.rf hr).p2 rfl
    have e12 : gt (pt hc 8 0 12 v) 8 0 12 = v := rfl
    refine ⟨pt hc 8 0 12 v, pt hr 12 0 52 v, l_no (by rw [e12]; omega), rfl, Or.inl ⟨n, S, sid, b, k, a, cx, ⟨X.fr xc rfl (frpN (frrN hc)) (fun i _ => xc 1 2 (by simp) (by decide) i) xr rfl (fun j _ => ⟨xr 72 j (by simp) (by simp) 0, xr 73 j (by simp) (by simp) 0⟩), ⟨rfl, by rw [e12]; omega, by rw [e12]; omega, fun z => by rw [e12] at z; omega⟩, fun z => by rw [e12] at z; omega⟩, ?_⟩⟩
    rw [e12, if_neg (by omega)]
    show 2 * (b : Int) + 0 + 4 * (160 - gt hc 8 0 14) ≤ _
    omega
  rw [rd]
  unfold DLn
  rcases (show op = 0 ∨ op = 1 ∨ op = 2 ∨ op = 3 ∨ op = 4 ∨ op = 5 ∨ op = 6 ∨ op = 7 ∨ op = 8 ∨ op = 9 ∨ op = 10 ∨ op = 11 ∨ op = 12 ∨ op = 13 by unfold zMk at nm; omega) with z | z | z | z | z | z | z | z | z | z | z | z | z | z
  · -- BORROW
    subst z
    have aq : 0 ≤ a0 ∧ a0 < 8 := by rcases j2 with y | y; cases y; have y : 0 ≤ a0 ∧ a0 ≤ 7 := y; omega
    have bq : 0 ≤ b0 ∧ b0 < 60 := by rcases j3 with y | y; cases y; have y : 0 ≤ b0 ∧ b0 ≤ 59 := y; omega
    obtain ⟨hc', hr', u1, u2, u3⟩ := l_borrow (p := b0) (so := 0) (op := 0) X I E (zz 0 rfl (by decide) (by decide)) aq (Or.inl rfl) (by decide)
    refine ⟨hc', hr', cd _ ?_, ?_, u3⟩
    · exact u1
    · rw [← u2, if_pos (Or.inl rfl), s_noPart (by rw [C.2.2.2.2.1.1]; exact C.2.2.2.2.1.2.1) (by rw [C.2.2.2.2.1.1]; exact C.2.2.2.2.1.2.2.1)]
      simp only [zb, zl, pr32, pr_3 d2, if_pos bq, (rb a0 aq.1 aq.2).2, if_pos (rb a0 aq.1 aq.2).1, F_X12_doLine_143]
      by_cases v : 0 ≤ b0 ∧ b0 < gt hr 12 0 0
      · by_cases y : gt hr 52 0 b0 = 0
        · simp [v, y]
        · simp [v, y]
      · simp [v]
  · -- TAKE
    subst z
    have aq : 0 ≤ a0 ∧ a0 < 8 := by rcases j2 with y | y; cases y; have y : 0 ≤ a0 ∧ a0 ≤ 7 := y; omega
    obtain ⟨hc', hr', u1, u2, u3⟩ := l_take (so := b0) X I E (zz 1 rfl (by decide) (by decide)) aq
    refine ⟨hc', hr', cd _ u1, ?_, u3⟩
    rw [← u2, if_neg (by decide), if_pos rfl]
  · -- HOLD
    subst z
    have aq : 0 ≤ a0 ∧ a0 < 8 := by rcases j2 with y | y; cases y; have y : 0 ≤ a0 ∧ a0 ≤ 7 := y; omega
    have bq : 0 ≤ b0 ∧ b0 < 60 := by rcases j3 with y | y; cases y; have y : 0 ≤ b0 ∧ b0 ≤ 59 := y; omega
    obtain ⟨hc', hr', u1, u2, u3⟩ := l_borrow (p := b0) (so := 1) (op := 2) X I E (zz 2 rfl (by decide) (by decide)) aq (Or.inr rfl) (by decide)
    refine ⟨hc', hr', cd _ u1, ?_, u3⟩
    have nl32 : ∀ (r : Int) (g : zH), F_X12_newLoan 0 b0 1 (-1) hr = some (r, g) → gt g 12 0 32 = 0 := fun r g hg => by
      obtain ⟨p, hp⟩ : ∃ p : Nat, (p : Int) = b + k := ⟨(b + k).toNat, by omega⟩
      have rq := X.2.2.2.2.1.2
      obtain ⟨Z, r1, r2, _⟩ := r_make (q := b0) (so := 1) (oo := -1) (n := n) (sid := sid) (S := S) (od := gt hr 12 0 43) d2 (X.2.2.1.sk p hp) (by omega) (by omega) x9 C.2.2.2.2.2.2.2.2.2.2.1.2.1 C.2.2.2.2.2.2.2.2.2.2.1.2.2.1 (by have := E.1; omega) rfl ⟨rq.2.2.2.2.1, by have := E.2.1; omega⟩ bq
      rw [r1, if_neg (by decide)] at hg
      have : g = pt Z 52 0 b0 1 := by injection hg with hg; injection hg with _ hg; exact hg.symm
      rw [this]
      show gt Z 12 0 32 = 0
      rw [r2 12 32 (by simp) (by decide) 0]; exact pr32
    rw [← u2, if_pos (Or.inr rfl), s_noPart (by rw [C.2.2.2.2.1.1]; exact C.2.2.2.2.1.2.1) (by rw [C.2.2.2.2.1.1]; exact C.2.2.2.2.1.2.2.1)]
    simp only [zb, zl, pr32, pr_3 d2, if_pos bq, (rb a0 aq.1 aq.2).2, if_pos (rb a0 aq.1 aq.2).1, F_X12_doLine_143]
    by_cases v : 0 ≤ b0 ∧ b0 < gt hr 12 0 0
    · by_cases y : gt hr 52 0 b0 = 0
      · cases hg : F_X12_newLoan 0 b0 1 (-1) hr with
        | none => simp [v, y]
        | some q =>
          have t32 := nl32 q.1 q.2 hg
          have t33 : ∀ x : Int, gt (pt q.2 74 0 (8 * (k - 1) + a0) x) 12 0 32 = 0 := fun x => t32
          have t74 : ∀ x : Int, gt (pt q.2 74 0 (8 * (k - 1) + a0) x) 74 0 (8 * (k - 1) + a0) = x := fun x => by simp [gt_pt]
          simp [v, y, t33, t74]
      · simp [v, y]
    · simp [v]
  · -- USE
    subst z
    have aq : 0 ≤ a0 ∧ a0 < 8 := by rcases j2 with y | y; cases y; have y : 0 ≤ a0 ∧ a0 ≤ 7 := y; omega
    obtain ⟨s1, s2, s3⟩ := slot a0 aq.1 aq.2
    obtain ⟨hc', hr', u1, u2, u3⟩ := l_use (b0 := b0) (base := 8 * (k - 1)) X I (zz 3 rfl (by decide) (by decide)) s2 s3
    refine ⟨hc', hr', cd _ ?_, ?_, u3⟩
    · simp only [c_in a4 ⟨x7, x8⟩ aq]
      exact u1
    · simp only [pr32, (rb a0 aq.1 aq.2).2, if_pos (rb a0 aq.1 aq.2).1, ← s1, u2]
      rfl
  · subst z
    have aq : 0 ≤ a0 ∧ a0 < 8 := by rcases j2 with y | y; cases y; have y : 0 ≤ a0 ∧ a0 ≤ 7 := y; omega
    obtain ⟨s1, s2, s3⟩ := slot a0 aq.1 aq.2
    obtain ⟨hc', hr', u1, u2, u3⟩ := l_back (b0 := b0) (base := 8 * (k - 1)) X I (zz 4 rfl (by decide) (by decide)) s2 s3
    refine ⟨hc', hr', cd _ ?_, ?_, u3⟩
    · simp only [c_in a4 ⟨x7, x8⟩ aq]
      exact u1
    · simp only [pr32, (rb a0 aq.1 aq.2).2, if_pos (rb a0 aq.1 aq.2).1, ← s1, u2]
      rfl
  · subst z
    have aq : 0 ≤ a0 ∧ a0 < 8 := by rcases j2 with y | y; cases y; have y : 0 ≤ a0 ∧ a0 ≤ 7 := y; omega
    have bq : 0 ≤ b0 ∧ b0 < 8 := by rcases j3 with y | y; cases y; have y : 0 ≤ b0 ∧ b0 ≤ 7 := y; omega
    obtain ⟨s1, s2, s3⟩ := slot a0 aq.1 aq.2
    obtain ⟨hc', hr', u1, u2, u3⟩ := l_lend X I E (zz 5 rfl (by decide) (by decide)) s2 s3 bq
    refine ⟨hc', hr', cd _ ?_, ?_, u3⟩
    · simp only [c_in a4 ⟨x7, x8⟩ aq]
      exact u1
    · simp only [pr32, (rb a0 aq.1 aq.2).2, if_pos (rb a0 aq.1 aq.2).1, ← s1, u2]
      rfl
  · subst z
    have aq : 0 ≤ a0 ∧ a0 < 8 := by rcases j2 with y | y; cases y; have y : 0 ≤ a0 ∧ a0 ≤ 7 := y; omega
    have bq : 0 ≤ b0 ∧ b0 ≤ 9 := by rcases j3 with y | y; cases y; exact y
    obtain ⟨s1, s2, s3⟩ := slot a0 aq.1 aq.2
    obtain ⟨hc', hr', u1, u2, u3⟩ := l_pass (base := 8 * (k - 1)) X I E (zz 6 rfl (by decide) (by decide)) s2 s3 bq.1 bq.2
    refine ⟨hc', hr', cd _ ?_, ?_, u3⟩
    · simp only [c_in a4 ⟨x7, x8⟩ aq]
      exact u1
    · simp only [pr32, (rb a0 aq.1 aq.2).2, if_pos (rb a0 aq.1 aq.2).1, ← s1, u2]
      rfl
  · subst z
    have bq : 0 ≤ b0 ∧ b0 < 8 := by rcases j3 with y | y; cases y; have y : 0 ≤ b0 ∧ b0 ≤ 7 := y; omega
    obtain ⟨s1, s2, s3⟩ := slot b0 bq.1 bq.2
    obtain ⟨hc', hr', u1, u2, u3⟩ := l_call (x := a0) X I E (zz 7 rfl (by decide) (by decide)) s2 s3
    refine ⟨hc', hr', cd _ ?_, ?_, u3⟩
    · simp only [c_in a4 ⟨x7, x8⟩ bq]
      exact u1
    · rw [← u2]
      simp only [pr32, (rb b0 bq.1 bq.2).2, if_pos (rb b0 bq.1 bq.2).1, ← s1]
      rfl
  · subst z
    have aq : 0 ≤ a0 ∧ a0 < 12 := by rcases j2 with y | y; cases y; have y : 0 ≤ a0 ∧ a0 ≤ 11 := y; omega
    obtain ⟨hc', hr', f1, f2, f3, f4⟩ := l_fail (op := 8) (kd := a0) (p := -1) X I.1 aq.1 aq.2
    refine ⟨hc', hr', cd _ ?_, ?_, f4⟩
    · simp only [f1]
      exact f2
    · simp only [f3]
      rfl
  · subst z
    obtain ⟨hc', hr', u1, u2, u3⟩ := way 1 (Or.inl rfl)
    exact ⟨hc', hr', cd _ u1, u2, u3⟩
  · subst z
    obtain ⟨hc', hr', u1, u2, u3⟩ := way 2 (Or.inr rfl)
    exact ⟨hc', hr', cd _ u1, u2, u3⟩
  · subst z
    have aq : 0 ≤ a0 ∧ a0 ≤ 20 := by rcases j2 with y | y; cases y; exact y
    by_cases a00 : a0 = 0
    · obtain ⟨hc', hr', u1, u2, u3⟩ := l_loop0 X I eo
      refine ⟨hc', hr', cd _ (by rw [a00]; exact u1), ?_, u3⟩
      rw [← u2, a00]
      rfl
    · obtain ⟨hc', hr', u1, u2, u3⟩ := l_blk (a0 := a0) X I E eo (Or.inl ⟨rfl, by omega, aq.2⟩)
      refine ⟨hc', hr', cd _ u1, ?_, u3⟩
      rw [if_pos rfl] at u2
      rw [← u2]
      simp [a00, wI_s (show -1000000 ≤ a0 - 1 ∧ a0 - 1 ≤ 1000000 by omega)]
  · subst z
    obtain ⟨hc', hr', u1, u2, u3⟩ := l_scope (a0 := a0) X I E eo
    exact ⟨hc', hr', cd _ u1, u2, u3⟩
  · subst z
    obtain ⟨hc', hr', u1, u2, u3⟩ := l_blk (a0 := a0) X I E eo (Or.inr rfl)
    exact ⟨hc', hr', cd _ u1, u2, u3⟩

/-! CALL, LOOP, SCOPE, TRY -/
theorem CR.ln {B : Int} {n : Nat} {S S' c : Int} {sid sid' : Int → Int} {lc lr : List Nat} {mc mr : List (Nat × Int)} {hc hr hc' hr' : zH} (X : CR B n S c sid hc hr) (K' : LN n S' (-1) sid' hc' hr') (xc : zFx lc mc hc hc') (dc : zdj [6, 27, 28, 29, 30, 31, 32, 33, 34, 35, 36, 37, 38, 39, 40, 41, 42, 43, 44, 45, 46, 47, 48, 49, 100, 101, 102] ([(1, 3), (3, 1), (3, 3), (3, 5), (5, 3), (5, 4), (7, 3), (8, 9), (8, 11), (11, 0), (11, 1), (11, 2), (11, 3), (10, 0), (10, 1), (10, 2), (10, 3), (10, 4), (10, 5), (10, 6), (10, 7), (10, 8), (10, 9)] ++ fPIc) lc mc = true) (en : FrN hc hc')
    (xr : zFx lr mr hr hr') (dr : zdj [50, 51, 52, 53, 54, 55, 56, 57, 58, 59, 60, 61, 62, 63, 64, 65, 75, 76, 80, 81, 82, 89, 90, 91, 92] ([(12, 0), (12, 4), (12, 6), (12, 12), (12, 16), (12, 34), (12, 56), (12, 61), (12, 62)] ++ fPIr) lr mr = true) : CR B n S' c sid' hc' hr' := by
  obtain ⟨a1, a2, a3, a4, a5, a6, a7, a8, a9, a10, ⟨b1, b2, b3, b4, b5, b6, b7, b8, b9, b10⟩, K, U, H, L, T⟩ := X
  have g : ∀ q : Nat, ([50, 51, 52, 53, 54, 55, 56, 57, 58, 59, 60, 61, 62, 63, 64, 65, 75, 76, 80, 81, 82, 89, 90, 91, 92] : List Nat).contains q = true → gt hr' q 0 = gt hr q 0 := fun q z => by
    funext j; exact zdk dr xr z 0 j
  have gc : ∀ q : Nat, ([6, 27, 28, 29, 30, 31, 32, 33, 34, 35, 36, 37, 38, 39, 40, 41, 42, 43, 44, 45, 46, 47, 48, 49, 100, 101, 102] : List Nat).contains q = true → gt hc' q = gt hc q := fun q z => by
    funext i j; exact zdk dc xc z i j
  have e80 := g 80 rfl
  have e76 := g 76 rfl
  have zg : zLg hr' = zLg hr := by
    funext k
    unfold zLg
    rw [e80, e76]
  have h35 : gt hc' 3 0 5 = gt hc 3 0 5 := zdf2 dc xc (by decide) 0
  have r0 : gt hr' 12 0 0 = gt hr 12 0 0 := zdf2 dr xr (by decide) 0
  have r62 : gt hr' 12 0 62 = gt hr 12 0 62 := zdf2 dr xr (by decide) 0
  refine ⟨a1.fr xc (zwk dc rfl rfl), a2.fr xr (zwk dr rfl rfl), a3.fr xc (zwk dc rfl rfl), a4.fr xc (zwk dc rfl rfl) en.1, a5.fr xc (zwk dc rfl rfl) xr (zwk dr rfl rfl), a6.fr xc (zwk dc rfl rfl) xr (zwk dr rfl rfl), a7.fr xc (zwk dc rfl rfl) xr (zwk dr rfl rfl), ?_, a9.fr xc (zwk dc rfl rfl) xr (zwk dr rfl rfl), a10.fr xc (zwk dc rfl rfl) xr (zwk dr rfl rfl),
    ⟨by rw [zdf2 dc xc (c := 8) (j := 9) (by decide) 0]; exact b1, by rw [zdf2 dr xr (c := 12) (j := 34) (by decide) 0]; exact b2, by rw [zdf2 dr xr (c := 12) (j := 56) (by decide) 0]; exact b3, b4, by rw [zdf2 dc xc (c := 8) (j := 11) (by decide) 0]; exact b5, by rw [zdf2 dr xr (c := 12) (j := 61) (by decide) 0]; exact b6, b7, b8, b9, b10⟩, K', ?_, ?_, ?_, ?_⟩
  · rw [e80]; exact a8.fr xc (zwk dc rfl rfl) xr (zwk dr rfl rfl)
  · unfold PU zU
    rw [e80, e76, g 75 rfl, g 52 rfl, g 89 rfl, r0, r62, gc 6 rfl]
    exact U
  · unfold PH zU zLc
    rw [zg, e80, e76, g 75 rfl, g 52 rfl, r0, r62, gc 29 rfl, h35]
    exact H
  · unfold PL
    rw [g 89 rfl, g 90 rfl, g 91 rfl, g 92 rfl, g 52 rfl, r0, r62, gc 6 rfl, gc 29 rfl, gc 34 rfl, gc 35 rfl]
    exact L
  · unfold PTr zU
    rw [e80, e76, g 75 rfl, g 81 rfl, g 82 rfl, gc 6 rfl, gc 34 rfl, gc 35 rfl]
    exact T
theorem LN.up {n : Nat} {S e : Int} {sid sid' : Int → Int} {hc hr hc' hr' : zH} (K : LN n S e sid hc hr) (e4 : ∀ l j, gt hc' 4 l j = gt hc 4 l j) (e9 : ∀ t, t ≠ S + 1 → gt hc' 9 t 2 = gt hc 9 t 2) (e91 : gt hc' 9 (S + 1) 2 = -1) (er : ∀ c, 75 ≤ c → c ≤ 80 → gt hr' c 0 = gt hr c 0) (e0 : gt hr' 12 0 0 = gt hr 12 0 0) (e43 : gt hr' 12 0 43 = gt hr 12 0 43) (hs : ∀ i, 1 ≤ i → i ≤ S → sid' i = sid i) : LN n (S + 1) e sid' hc' hr' := by
  obtain ⟨k1, k2⟩ := K
  have g : ∀ j, fL hc' j = fL hc j := fun j => by funext l; exact e4 l j
  refine ⟨fun l l0 l1 => ?_, ?_⟩
  · obtain ⟨a, b, c1, c2, c3, c4⟩ := k1 l l0 l1
    unfold LA LB LC
    rw [er 75 (by decide) (by decide), er 76 (by decide) (by decide), er 77 (by decide) (by decide), er 78 (by decide) (by decide), er 79 (by decide) (by decide), er 80 (by decide) (by decide), e0, e43]
    simp only [e4]
    refine ⟨a, b, c1, c2, fun z1 z2 => ?_, c4⟩
    obtain ⟨m1, m2, _⟩ := k2.2.1 l ⟨l0, l1, z1, z2⟩
    rw [hs _ m1 m2]; exact c3 z1 z2
  · rw [er 76 (by decide) (by decide), er 79 (by decide) (by decide), er 80 (by decide) (by decide), g, g, g]
    exact k2.up (fun t t1 t2 => e9 t (by omega)) e91
/-- a new SCOPE's number beside the others -/
def sUp (S so : Int) (sid : Int → Int) : Int → Int := fun i => if i = S + 1 then so else sid i
theorem SI.up {S so : Int} {sid : Int → Int} (K : SI S sid) (h : 1 ≤ S → sid S < so) : SI (S + 1) (sUp S so sid) := by
  intro i j i1 ij js
  unfold sUp
  rw [if_neg (by omega)]
  by_cases c : j = S + 1
  · rw [if_pos c]
    by_cases d : i = S
    · rw [d]; exact h (by omega)
    · have := K i S i1 (by omega) (Int.le_refl S)
      have := h (by omega)
      omega
  · rw [if_neg c]; exact K i j i1 ij (by omega)
theorem m_enter {B : Int} {n m : Nat} {S c ac fi : Int} {sid : Int → Int} {b : Nat} {k a : Int} {cx : zK} {hc hr : zH} (C : CR B n S c sid hc hr) (F : RF hc hr) (K : Stk hc hr sid b k S a cx) (I : SI S sid) (O : EO hc hr k a cx)
    (q : gt hc 8 0 3 = k ∧ gt hc 8 0 5 = b ∧ gt hc 8 0 7 = S ∧ gt hr 12 0 25 = b + k ∧ gt hr 12 0 33 = k ∧ gt hr 12 0 60 = 0 ∧ gt hr 12 0 59 = -1) (k10 : k < 10)
    (r : gt hc 8 0 14 = gt hr 12 0 55 ∧ 0 ≤ gt hc 8 0 14 ∧ gt hc 8 0 14 ≤ 160 ∧ (n : Int) ≤ gt hc 8 0 14 ∧ 0 ≤ gt hr 12 0 43 ∧ gt hr 12 0 43 ≤ gt hc 8 0 14 ∧ gt hc 8 0 16 = gt hr 12 0 58 ∧ 0 ≤ gt hc 8 0 16 ∧ gt hc 8 0 16 + b < gt hc 8 0 14 + 1 ∧ gt hr 12 0 44 = gt hc 8 0 15 + S ∧ 0 ≤ gt hc 8 0 15 ∧ gt hr 12 0 44 < gt hc 8 0 14 + 1 ∧ ((1 ≤ S → sid S < gt hr 12 0 44) ∧ ∀ i : Int, 1 ≤ i → i ≤ S → 0 ≤ sid i))
    (T : SL n k hc hr) (f0 : -1 ≤ fi) (f1 : fi < n) (Z : zS hc hr ac m) :
    ∃ hc' hr', F_X8_enter 0 (ac + 1) ac fi hc = some (0, hc') ∧ F_X12_beginAct 0 ac fi hr = some (0, hr') ∧ RB B n (S + 1) c (sUp S (gt hr 12 0 44) sid) (b + 1) (k + 1) (b + k) [] hc' hr' ∧ zFx [0, 20] [(1, 0), (1, 1), (1, 2), (8, 3), (8, 5), (8, 7), (9, 0), (9, 1), (9, 2)] hc hc' ∧ zFx [68, 69, 70, 71, 72, 73, 74] [(12, 25), (12, 33), (12, 44), (12, 67)] hr hr' ∧ gt hc' 1 (k + 1) 2 = 0 ∧ gt hr' 72 0 (b + k) = 0 ∧ gt hc' 1 (k + 1) 1 = ac := by
  obtain ⟨q1, q2, q3, q4, q5, q6, q7⟩ := q
  obtain ⟨r1, r2, r3, r4, r5, r6, r7, r8, r9, r10, r11, r12, r13, r14⟩ := r
  obtain ⟨d1, d2, d3, d4, d5, d6, d7, d8⟩ := K.bd
  have a1 := C.1
  have a2 := C.2.1
  have a4 := C.2.2.2.1
  have bb : (b : Int) ≤ 81 := by
    by_cases z : k = 0
    · rw [d7 z]; decide
    · have := (d8 (by omega)).2.1; omega
  have hz := zF_i
  obtain ⟨hc', c1, c2, c3, c4, c5, c6, c7, c8, c9, c10, c11, c12⟩ := c_enter (n := ac) (fi := fi) a1 a4 q1 q2 q3 d1 k10 (by omega) d2 (by omega) Z.1
  obtain ⟨hr', s1, s2, s3, s4, s5, s6, s7, s8, s9⟩ := r_slots (n := ac) (fi := fi) d1 k10 (P := b + k) (by omega) (by omega) (so := gt hr 12 0 44) (by omega) zF 0 hr a2 q5 q4 rfl (Int.le_refl 0) (by decide) (by omega)
  have en : FrN hc hc' := c3
  have su : ∀ i, i ≤ S → sUp S (gt hr 12 0 44) sid i = sid i := fun i z => if_neg (by omega)
  have suS : sUp S (gt hr 12 0 44) sid (S + 1) = gt hr 12 0 44 := if_pos rfl
  have K' : LN n (S + 1) (-1) (sUp S (gt hr 12 0 44) sid) hc' hr' := (show LN n S (-1) sid hc hr from C.2.2.2.2.2.2.2.2.2.2.2.1).up (fun l j => c2 4 j (by simp) (by simp) l) (fun t z => c10 t 2 z) c9.2.2 (fun d x y => by
    funext j
    rcases (show d = 75 ∨ d = 76 ∨ d = 77 ∨ d = 78 ∨ d = 79 ∨ d = 80 by omega) with rfl | rfl | rfl | rfl | rfl | rfl
    · exact s2 75 j (by simp) (by simp) 0
    · exact s2 76 j (by simp) (by simp) 0
    · exact s2 77 j (by simp) (by simp) 0
    · exact s2 78 j (by simp) (by simp) 0
    · exact s2 79 j (by simp) (by simp) 0
    · exact s2 80 j (by simp) (by simp) 0) (s2 12 0 (by simp) (by decide) 0) (s2 12 43 (by simp) (by decide) 0) (fun i _ z => su i z)
  have C' : CR B n (S + 1) c (sUp S (gt hr 12 0 44) sid) hc' hr' := C.ln K' c2 rfl en s2 rfl
  have KO : Stk hc' hr' (sUp S (gt hr 12 0 44) sid) b k S a cx := K.cg (x := b + k) (by funext i j; exact c2 43 j (by simp) (by simp) i) (by funext i j; exact c2 44 j (by simp) (by simp) i) (by funext i j; exact c2 45 j (by simp) (by simp) i) (c2 11 2 (by simp) (by decide) 0) (by funext j; exact s2 62 j (by simp) (by simp) 0) (by rw [c2 2 6 (by simp) (by decide) 0]; exact Int.le_refl _) (Or.inr (Int.le_refl _)) (fun i i1 i2 j => c8 i j (by omega)) (fun i i1 i2 => ⟨c6 i 0 (by omega), c6 i 1 (by omega), fun _ => c6 i 2 (by omega)⟩) (fun i i1 i2 => ⟨c10 i 0 (by omega), c10 i 1 (by omega), su i i2⟩) (fun j j0 j1 => by
    obtain ⟨w1, w2, w3, w4, w5, w6⟩ := s7 j j1
    exact ⟨w1, w2, w3, w4, fun _ => ⟨w5, w6⟩⟩)
  have Z' : zS hc' hr' ac m := Z.fr c2 rfl s2 rfl
  refine ⟨hc', hr', c1, ?_, ⟨C', F.fr c2 rfl s2 rfl, ?_, I.up r13, ?_, ?_⟩, c2, s2, c5.2.2, s5.2.2, c5.2.1⟩
  · unfold F_X12_beginAct F_X12_beginAct_0
    exact s1
  · refine Or.inl ⟨c7, ⟨by omega, by omega, ?_⟩, by omega, rfl, a, cx, ?_, ?_⟩
    · have e1 : (b : Int) + (k + 1) - 1 = b + k := by omega
      have e2 : (b : Int) + (k + 1) = b + k + 1 := by omega
      rw [e1, e2, c5.1, c5.2.1, c9.1, c9.2.1, suS]
      exact ⟨s5.1, s5.2.1, s6.1, s6.2.1, s6.2.2, rfl, rfl, rfl, m, Z'⟩
    · rw [show k + 1 - 1 = k by omega]
      rcases O with z | ⟨t, m', o1, o2, o3, o4, o5, o6⟩
      · exact Or.inl z
      · by_cases k1 : k = 0
        · exact Or.inl k1
        · have a0 := (d8 (by omega)).1
          obtain ⟨w1, w2, w3, w4, w5, w6⟩ := s7 a (by omega)
          refine Or.inr ⟨t, m', ?_⟩
          rw [c6 k 2 (by omega), c6 k 1 (by omega), w5, w6, zjs.fr c2 rfl]
          exact ⟨o1, o2, o3, o4.fr c2 rfl s2 rfl, o5, o6⟩
    · rw [show k + 1 - 1 = k by omega, show S + 1 - 1 = S by omega]; exact KO
  · have g14 : gt hc' 8 0 14 = gt hc 8 0 14 := c2 8 14 (by simp) (by decide) 0
    have g15 : gt hc' 8 0 15 = gt hc 8 0 15 := c2 8 15 (by simp) (by decide) 0
    have g16 : gt hc' 8 0 16 = gt hc 8 0 16 := c2 8 16 (by simp) (by decide) 0
    refine ⟨⟨c4.1, ?_, c4.2.2, ?_, s4.2.1, s4.2.2.2, ?_, by omega, by omega, ?_⟩, ?_⟩
    · rw [c4.2.1]; omega
    · rw [s4.1]; omega
    · rw [s2 12 60 (by simp) (by decide) 0]; exact q6
    · rw [s2 12 59 (by simp) (by decide) 0]; exact q7
    · rw [g14, g15, g16, s4.2.2.1, s2 12 55 (by simp) (by decide) 0, s2 12 43 (by simp) (by decide) 0, s2 12 58 (by simp) (by decide) 0, suS]
      refine ⟨r1, r2, r3, r4, r5, r6, r7, r8, by omega, by omega, r11, by omega, fun _ => by omega, fun i i1 i2 => ?_⟩
      by_cases z : i = S + 1
      · rw [z, suS]; omega
      · rw [su i (by omega)]; exact r14 i i1 (by omega)
  · intro i s i1 i2 j0 j1
    by_cases z : i = k + 1
    · rw [z, c11 s j0 j1, show 8 * (k + 1 - 1) + s = 8 * k + s by omega, s9 s j0 j1, if_pos j0]
      by_cases w : s = 0
      · rw [if_pos w]; exact ⟨rfl, f0, f1⟩
      · rw [if_neg w]; exact ⟨rfl, by omega, by omega⟩
    · rw [c12 i s z, s8 _ (by omega)]
      exact T i s i1 (by omega) j0 j1
theorem s_noAct' {h : zH} {n : Int} (h0 : 0 ≤ gt h 12 0 16) (h1 : gt h 12 0 16 ≤ 12) : F_X12_noAct 0 n h = some (if 0 ≤ n ∧ n < gt h 12 0 16 then 0 else 1, h) := s_noAct h0 h1
theorem l_call {B : Int} {n : Nat} {S c x fi : Int} {sid : Int → Int} {b : Nat} {k a : Int} {cx : zK} {hc hr : zH} {t m : Nat} (X : RB B n S c sid b k a cx hc hr) (I : LI k a t m cx hc hr) (E : SX n b hc hr) (e : zjs hc (gt hc 1 k 1) (t + 1) = cx) (f0 : -1 ≤ fi) (f1 : fi < n) :
    ∃ hc' hr', zb (F_X8_callAct 0 k x fi hc) (fun _ h => F_X8_doLine_223 0 k 7 h) = some (0, hc') ∧ (if gt hr 12 0 33 ≠ 10 then zb (F_X12_noAct 0 x hr) (fun r37 h37 => if r37 ≠ 0 then (F_X12_doLine_380 0 t x fi 0 h37) else (zb (F_X12_judge 0 x h37) (fun _ h41 => if gt h41 12 0 21 ≠ 0 then (F_X12_doLine_380 0 t x fi 0 h41) else (F_X12_doLine_380 0 t x fi 1 h41)))) else zb (F_X12_fail 0 8 t (-1) hr) (fun _ h => some (0, h))) = some (0, hr') ∧ RES B c (2 * b + 3 + 4 * (160 - gt hc 8 0 14)) hc' hr' := by
  obtain ⟨x1, x2, x3, x4, x5, x6, x7, x8, x9, x10, x11, x12, x13, x14, x15, x16, x17, x18⟩ := X.at
  have C := X.1
  have a1 := C.1
  have a2 := C.2.1
  have a4 := C.2.2.2.1
  have R := C.2.2.2.2.2.2.2.2.2.1
  obtain ⟨k1, k2, k3, k4⟩ := R
  have q33 := X.2.2.2.2.1.1.2.2.2.2.1
  have sf := s_findScript (n := x) a4 k3
  have h8 : F_X11_findScript (gt hc 8 0 1) x hc = F_X11_findScript 0 x hc := by rw [pc_8_1 a1]
  have fail8 : ∀ kd, 0 ≤ kd → kd < 12 → ∀ hr1, zFx [66, 67] [(12, 21), (12, 22)] hr hr1 → F_X8_callAct 0 k x fi hc = zb (F_X8_fail 0 k kd (-1) hc) (fun _ h => some (0, h)) → ∀ Rx : zO, Rx = zb (F_X12_fail 0 kd t (-1) hr1) (fun _ h => some (0, h)) → ∃ hc' hr', zb (F_X8_callAct 0 k x fi hc) (fun _ h => F_X8_doLine_223 0 k 7 h) = some (0, hc') ∧ Rx = some (0, hr') ∧ RES B c (2 * b + 3 + 4 * (160 - gt hc 8 0 14)) hc' hr' := fun kd kd0 kd1 hr1 xr u1 Rx u2 => by
    have X1 : RB B n S c sid b k a cx hc hr1 := X.fr (lc := []) (mc := []) (zFx.rf hc) rfl (frrN hc) (fun _ _ => rfl) xr rfl (fun j _ => ⟨xr 72 j (by simp) (by simp) 0, xr 73 j (by simp) (by simp) 0⟩)
    obtain ⟨hc', hr', w1, w2, w3, w4⟩ := l_fail (op := 7) (p := -1) X1 I.1 kd0 kd1
    refine ⟨hc', hr', ?_, ?_, w4⟩
    · rw [u1, w1]; exact w2
    · rw [u2, w3]; rfl
  by_cases k10 : k = 10
  · refine fail8 8 (by decide) (by decide) hr (zFx.rf hr) ?_ _ (if_neg (by rw [q33]; simpa using k10))
    unfold F_X8_callAct F_X8_callAct_0
    rw [if_pos (Int.le_refl 0), h8, sf]
    simp only [zb]
    rw [x15, if_neg (by omega)]
  · rw [if_pos (by rw [q33]; exact k10), s_noAct (by rw [k1]; exact k2) (by rw [k1]; exact k3)]
    simp only [zb]
    by_cases y : 0 ≤ x ∧ x < gt hc 11 0 2
    · have ww : (if 0 ≤ x ∧ x < gt hr 12 0 16 then (0 : Int) else 1) = 0 := if_pos (by rw [k1]; exact y)
      rw [ww, if_neg (by decide)]
      obtain ⟨ops, as, bs, mm, f1', f2, f3, f4, f5, f6, f7, hr1, f8, f9, f10, f11, f12⟩ := c_fault ⟨k1, k2, k3, k4⟩ y.1 y.2 a2
      rw [f8]
      simp only []
      by_cases z : jfn ops as bs mm = 0
      · rw [if_neg (by rw [f11]; simpa using z)]
        have sd : zSd ops as bs mm := by
          unfold jfn at z
          by_cases w : jf ops as bs mm ≠ 0
          · rw [if_pos w] at z; exact absurd z w
          · rw [if_neg w] at z
            have w : jf ops as bs mm = 0 := by simpa using w
            by_cases v : js ops as bs mm = []
            · exact ⟨w, v⟩
            · rw [if_neg v] at z; cases z
        rw [f3, f4, f5] at sd
        have Z1 : zS hc hr1 x mm := ⟨y.1, y.2, by rw [f9 62 x (by simp) (by simp) 0]; exact f1', sd⟩
        have X1 : RB B n S c sid b k a cx hc hr1 := X.fr (lc := []) (mc := []) (zFx.rf hc) rfl (frrN hc) (fun _ _ => rfl) f9 rfl (fun j _ => ⟨f9 72 j (by simp) (by simp) 0, f9 73 j (by simp) (by simp) 0⟩)
        have I1 : LI k a t m cx hc hr1 := I.fr (lc := []) (mc := []) (zFx.rf hc) rfl f9 rfl
        obtain ⟨z1, z2, z3, z4, ⟨⟨p1, p2, p3, p4, p5, p6, p7, p8, p9, p10⟩, ⟨r1, r2, r3, r4, r5, r6, r7, r8, r9, r10, r11, r12, r13⟩⟩, z6⟩ := X1
        have E1 : SX n b hc hr1 := E.fr (lc := []) (mc := []) (zFx.rf hc) rfl f9 rfl
        have I1' := I1
        obtain ⟨i1, i2, i3, i4, i5, i6, i7, i8⟩ := I1'
        obtain ⟨hc', hr', w1, w2, w3, w4, w5, w6, w7, w8⟩ := m_enter (fi := fi) (ac := x) z1 z2 z3 z4 (Or.inr ⟨t, m, i1, i2, i3, i4, i5, e⟩) ⟨p1, p2, p3, p4, p5, p7, p10⟩ (by omega) ⟨r1, r2, r3, r4, r5, r6, r7, r8, E1.2.2.1, r10, r11, E1.2.2.2, r13⟩ z6 f0 f1 Z1
        have g12 : gt hc' 8 0 12 = 0 := (w4 8 12 (by simp) (by decide) 0).trans i7
        have g52 : gt hr' 12 0 52 = 0 := (w5 12 52 (by simp) (by decide) 0).trans i8
        refine ⟨hc', hr', ?_, ?_, Or.inl ⟨n, S + 1, _, b + 1, k + 1, b + k, [], ⟨w3, ⟨by rw [g12, g52], by rw [g12]; decide, by rw [g12]; decide, fun v => by omega⟩, fun _ => ⟨0, mm, w6, w7, by rw [w8]; exact Z1.fr w4 rfl w5 rfl, Nat.zero_le _, rfl⟩⟩, ?_⟩⟩
        · unfold F_X8_callAct F_X8_callAct_0
          rw [if_pos (Int.le_refl 0), h8, sf, if_pos y]
          simp only [zb]
          rw [x15, if_pos (by omega), if_neg (by omega), if_pos (by omega), f6]
          simp only []
          rw [if_pos z, w1]
          simp only []
          unfold F_X8_doLine_223
          rw [if_pos (Int.le_refl 0), if_neg (by simpa using g12), if_pos (by decide)]
        · unfold F_X12_doLine_380
          rw [if_neg (by decide), if_pos (Int.le_refl 0), w2]
          rfl
        · rw [if_pos g12, w4 8 14 (by simp) (by decide) 0]; omega
      · rw [if_pos (by rw [f11]; exact z)]
        refine fail8 4 (by decide) (by decide) hr1 f9 ?_ _ ?_
        · unfold F_X8_callAct F_X8_callAct_0 F_X8_callAct_43
          rw [if_pos (Int.le_refl 0), h8, sf, if_pos y]
          simp only [zb]
          rw [x15, if_pos (by omega), if_neg (by omega), if_pos (by omega), f6]
          simp only []
          rw [if_neg z, if_pos (Int.le_refl 0)]
        · unfold F_X12_doLine_380
          rw [if_pos rfl, if_pos (Int.le_refl 0)]
    · have ww : (if 0 ≤ x ∧ x < gt hr 12 0 16 then (0 : Int) else 1) = 1 := if_neg (by rw [k1]; exact y)
      rw [ww, if_pos (by decide)]
      refine fail8 4 (by decide) (by decide) hr (zFx.rf hr) ?_ _ ?_
      · unfold F_X8_callAct F_X8_callAct_0 F_X8_callAct_43
        rw [if_pos (Int.le_refl 0), h8, sf, if_neg y]
        simp only [zb]
        rw [x15, if_pos (by omega), if_pos trivial, if_pos (Int.le_refl 0)]
      · unfold F_X12_doLine_380
        rw [if_pos rfl, if_pos (Int.le_refl 0)]

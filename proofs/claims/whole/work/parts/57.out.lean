/-! BORROW, TAKE, HOLD -/
theorem l_hire {B : Int} {n : Nat} {S c q so s op : Int} {sid : Int → Int} {b : Nat} {k a : Int} {cx : zK} {hc hr : zH} {t m : Nat} (X : RB B n S c sid b k a cx hc hr) (I : LI k a t m cx hc hr) (E : SX n b hc hr) (e : zjs hc (gt hc 1 k 1) (t + 1) = cx) (sl : 0 ≤ s ∧ s < 8) (q0 : 0 ≤ q) (q1 : q < gt hr 12 0 0) (st : gt hr 52 0 q = 0) (so01 : so = 0 ∨ so = 1) (o6 : op ≤ 6) :
    ∃ hc' hr', zb (F_X8_hire 0 k s q so hc) (fun _ h => F_X8_doLine_223 0 k op h) = some (0, hc') ∧ zb (F_X12_newLoan 0 q so (-1) hr) (fun r h => if so = 1 then zb (F_X12_trace 0 r (pt h 74 0 (8 * (k - 1) + s) r)) (fun _ h => some (0, h)) else some (0, pt h 74 0 (8 * (k - 1) + s) r)) = some (0, hr') ∧ RES B c (2 * b + 3 + 4 * (160 - gt hc 8 0 14)) hc' hr' := by
  obtain ⟨x1, x2, x3, x4, x5, x6, x7, x8, x9, x10, x11, x12, x13, x14, x15, x16, x17, x18⟩ := X.at
  have C := X.1
  have a1 := C.1
  have a2 := C.2.1
  have a4 := C.2.2.2.1
  have rq := X.2.2.2.2.1.2
  have cu := C.2.2.2.2.2.2.2.2.2.2.1.2.2.2.2.1
  obtain ⟨p, hp⟩ : ∃ p : Nat, (p : Int) = b + k := ⟨(b + k).toNat, by omega⟩
  have pe := C.2.2.2.2.1
  obtain ⟨hc1, hc2, hr2, g1, g2, g3, g4, g5, g6, g7, g8, g9, g10, g11, g12⟩ := m_hire (s := s) (k := k) (so := so) C (by have := E.1; omega) (X.2.2.1.sk p hp) (by omega) (by omega) x14 x9 x10 sl ⟨x7, x8⟩ ⟨rq.2.2.2.2.1, by have := E.2.1; omega⟩ q0 q1 st so01
  obtain ⟨hr3, h3⟩ : ∃ hr3, hr3 = pt hr2 74 0 (8 * (k - 1) + s) n := ⟨_, rfl⟩
  have y3 : zFx [74] [] hr2 hr3 := by rw [h3]; exact (zFx.rf hr2).p1 rfl
  have n160 : n < 160 := by have := E.1; omega
  have hz := zF_i
  -- the TRACE
  obtain ⟨hcT, hrT, ec, er, t1, t2, t3, t4, t5, t6, t7⟩ : ∃ hcT hrT, F_X8_hire 0 k s q so hc = some (0, hcT) ∧ (if so = 1 then zb (F_X12_trace 0 n hr3) (fun _ h => some (0, h)) else some (0, hr3)) = some (0, hrT) ∧ zFx [34, 35] [(6, 7)] hc2 hcT ∧ FrN hc2 hcT ∧ zFx [81, 82] [] hr3 hrT ∧
      (∀ x, x ≠ q → gt hcT 6 x 7 = gt hc2 6 x 7 ∧ gt hcT 34 x = gt hc2 34 x ∧ gt hcT 35 x = gt hc2 35 x) ∧ (∀ x : Int, x ≠ n → gt hrT 81 0 x = gt hr3 81 0 x) ∧ (∀ x, ¬ (20 * (n : Int) ≤ x ∧ x < 20 * n + 20) → gt hrT 82 0 x = gt hr3 82 0 x) ∧
      (so = 1 → gt hcT 6 q 7 = k ∧ gt hrT 81 0 n = k ∧ ∀ j : Int, 0 ≤ j → j < k → gt hcT 34 q j = gt hrT 82 0 (20 * n + 2 * j) ∧ gt hcT 35 q j = gt hrT 82 0 (20 * n + 2 * j + 1)) := by
    have base : ∀ v, F_X3_giveOut 0 q (gt hc 8 0 11) v hc = F_X3_giveOut 0 q c v hc := fun v => by rw [cu]
    rcases so01 with z | z
    · refine ⟨hc2, hr3, ?_, by rw [if_neg (by omega)], zFx.rf hc2, frrN hc2, zFx.rf hr3, fun _ _ => ⟨rfl, rfl, rfl⟩, fun _ _ => rfl, fun _ _ => rfl, fun y => by omega⟩
      subst z
      unfold F_X8_hire F_X8_hire_0
      rw [if_pos (by decide), if_pos (by decide), pc_8_0 a1, if_pos (by decide), base, g1]
      simp only [zb]
      rw [g2]
      simp
    · subst z
      obtain ⟨b1, b2, b3, b4, _⟩ := g6
      have P2 := b4.2.2.2.1 q q0 (by rw [g4 3 1 (by simp) (by decide) 0, ← pe.1]; exact q1)
      obtain ⟨hcT, u1, u2, u3, u4, u5, u6, u7⟩ := c_tr (q := q) (k := k) x8 q0 zF 1 hc2 b1 (fun i i0 i1 => (b4.1 i i0 i1).1) ((g4 8 3 (by simp) (by decide) 0).trans x15) P2.2.2.1 P2.2.2.2 (Int.le_refl 1) (by omega) g9 (by omega)
      obtain ⟨pl, p1, p2, p3, p4⟩ := X.2.2.1.ta
      have yr : zFx [52, 74, 75, 76, 77, 78, 79, 80] [(12, 34), (12, 43), (12, 56)] hr hr3 := (g5.wk rfl rfl).tr (y3.wk rfl rfl)
      obtain ⟨hrT, v1, v2, v3, v4, v5, v6⟩ := r_tr (l := n) (k := k) (P := b + k) (pl := pl) (nu := fun i => gt hc 1 i 1) (av := fun i => gt hc 1 i 2) x8 (Int.natCast_nonneg n) (by omega) (by omega) p1 zF 0 0 hr3 (b2.fr y3 rfl) ((yr 12 25 (by simp) (by decide) 0).trans x13) (fun i i1 i2 => by
        obtain ⟨w1, w2, w3, w4, w5⟩ := p2 i i1 i2
        rw [yr 68 _ (by simp) (by simp) 0, yr 70 _ (by simp) (by simp) 0, yr 73 _ (by simp) (by simp) 0]
        refine ⟨w1, w2, w3, w4, ?_⟩
        by_cases d : i = k
        · rw [d, p4 x7, I.2.2.1, I.1]
        · exact w5 (by omega)) (fun j j0 j1 w => by rw [yr 68 _ (by simp) (by simp) 0] at w; exact p3 j j0 j1 w) (Int.le_refl 0) (by omega) (Int.le_refl 0) (by omega) (fun i i1 i2 => by have := (p2 i i1 i2).1; omega) (by omega)
      refine ⟨hcT, hrT, ?_, ?_, u2, u3, v2, u5, v4, fun x w => v5 x (by omega), fun _ => ⟨u4, v3, fun j j0 j1 => ?_⟩⟩
      · unfold F_X8_hire F_X8_hire_0
        rw [if_pos (by decide), if_neg (by decide), pc_8_0 a1, if_pos (by decide), base, g1]
        simp only [zb]
        rw [g2]
        simp only []
        rw [if_neg (by decide)]; exact u1
      · rw [if_pos rfl]
        unfold F_X12_trace F_X12_trace_0
        rw [v1]
        rfl
      · obtain ⟨w1, w2⟩ := u7 j (by omega) j1
        obtain ⟨w3, w4⟩ := v6 j j0 j1
        rw [w1, w2, w3, w4]
        exact ⟨g4 1 1 (by simp) (by decide) (j + 1), g4 1 2 (by simp) (by decide) (j + 1)⟩
  have xr : zFx [74, 81, 82] [] hr2 hrT := (y3.wk rfl rfl).tr (t3.wk rfl rfl)
  have XC : zFx [20, 29, 34, 35] ([(6, 3), (6, 4), (6, 7), (3, 5)] ++ mMk) hc hcT := (g4.wk rfl rfl).tr (t1.wk rfl rfl)
  have XR : zFx [52, 74, 75, 76, 77, 78, 79, 80, 81, 82] [(12, 34), (12, 43), (12, 56)] hr hrT := (g5.wk rfl rfl).tr (xr.wk rfl rfl)
  have C1 : CR B (n + 1) S c sid hcT hrT := by
    obtain ⟨a1, a2, a3, a4, a5, a6, a7, a8, a9, a10, ⟨b1, b2, b3, b4, b5, b6, b7, b8, b9, b10⟩, K, U, H, L, T⟩ := g6
    have g : ∀ d : Nat, ([74, 81, 82] : List Nat).contains d = false → gt hrT d 0 = gt hr2 d 0 := fun d w => by
      funext j
      exact xr d j (by simpa using w) (by simp) 0
    have zg : zLg hrT = zLg hr2 := by
      funext i
      unfold zLg
      rw [g 80 rfl, g 76 rfl]
    have r0 : gt hrT 12 0 0 = gt hr2 12 0 0 := by rw [g 12 rfl]
    have r62 : gt hrT 12 0 62 = gt hr2 12 0 62 := by rw [g 12 rfl]
    have e64 : ∀ x, gt hcT 6 x 4 = gt hc2 6 x 4 := fun x => t1 6 4 (by simp) (by decide) x
    have e29 : gt hcT 29 = gt hc2 29 := by funext i j; exact t1 29 j (by simp) (by simp) i
    have e35' : gt hcT 3 0 5 = gt hc2 3 0 5 := t1 3 5 (by simp) (by decide) 0
    have Un : zU (n + 1) hr2 n := ⟨Int.natCast_nonneg n, by omega, g12, by rw [g11]; omega⟩
    have ne : ∀ x, zU (n + 1) hr2 x → x ≠ n → gt hr2 75 0 x ≠ q := fun x y z w => z (U.2.1 x n y Un (by rw [w, g10]))
    have nl : ∀ i : Int, 0 ≤ i → i < gt hr2 12 0 62 → gt hr2 89 0 i ≠ q := fun i i0 i1 => by
      have := (U.1 n Un).2.2 i i0 i1
      rw [g10] at this
      exact this
    refine ⟨a1.fr t1 rfl, a2.fr xr rfl, a3.fr t1 rfl, a4.fr t1 rfl t2.1, a5.fr t1 rfl xr rfl, a6.fr t1 rfl xr rfl, a7.fr t1 rfl xr rfl, by rw [g 80 rfl]; exact a8.fr t1 rfl xr rfl, a9.fr t1 rfl xr rfl, a10.fr t1 rfl xr rfl,
      ⟨by rw [t1 8 9 (by simp) (by decide) 0]; exact b1, by rw [g 12 rfl]; exact b2, by rw [g 12 rfl]; exact b3, b4, by rw [t1 8 11 (by simp) (by decide) 0]; exact b5, by rw [g 12 rfl]; exact b6, b7, b8, b9, b10⟩, K.fr t1 rfl xr rfl, ?_, ?_, ?_, fun x y o => ?_⟩
    · unfold PU zU
      rw [g 80 rfl, g 76 rfl, g 75 rfl, g 52 rfl, g 89 rfl, r0, r62]
      simp only [e64]
      exact U
    · unfold PH zU zLc
      rw [zg, g 80 rfl, g 76 rfl, g 75 rfl, g 52 rfl, r0, r62, e29, e35']
      exact H
    · obtain ⟨l1, l2, l3⟩ := L
      unfold PL
      rw [g 89 rfl, g 90 rfl, g 91 rfl, g 92 rfl, g 52 rfl, r0, r62, e29]
      refine ⟨l1, fun i i0 i1 => ?_, l3⟩
      obtain ⟨w1, w2, w3⟩ := t4 (gt hr2 89 0 i) (nl i i0 i1)
      rw [e64, w1, w2, w3]
      exact l2 i i0 i1
    · unfold zU at y
      rw [g 80 rfl, g 76 rfl] at y
      rw [g 76 rfl] at o
      rw [g 75 rfl]
      by_cases z : x = n
      · rw [z] at o ⊢
        obtain ⟨w1, w2, w3⟩ := t7 (by rw [← g11]; exact o)
        rw [g10, w1, w2]
        exact ⟨rfl, by omega, x8, w3⟩
      · obtain ⟨w1, w2, w3⟩ := t4 (gt hr2 75 0 x) (ne x y z)
        obtain ⟨v1, v2, v3, v4⟩ := T x y z o
        have e81 : gt hrT 81 0 x = gt hr2 81 0 x := by rw [t5 x z, y3 81 x (by simp) (by simp) 0]
        have xb : 0 ≤ x ∧ x < n := ⟨y.1, by have := y.2.1; omega⟩
        rw [w1, w2, w3, e81]
        refine ⟨v1, v2, v3, fun j j0 j1 => ?_⟩
        rw [t6 _ (by omega), t6 _ (by omega), y3 82 _ (by simp) (by simp) 0, y3 82 _ (by simp) (by simp) 0]
        exact v4 j j0 j1
  have nc : FrN hc hcT := (nf_X3_giveOut g1).tr ((nf_X8_makeLoan g2).tr t2)
  have X1 : RB B (n + 1) S c sid b k a cx hcT hrT := by
    refine ⟨C1, X.2.1.fr XC rfl XR rfl, X.2.2.1.fr XC rfl (fun i _ => XC 1 2 (by simp) (by decide) i) XR rfl (fun j _ => ⟨XR 72 j (by simp) (by simp) 0, XR 73 j (by simp) (by simp) 0⟩) (by rw [XC 2 6 (by simp) (by decide) 0]; exact Int.le_refl _), X.2.2.2.1, X.2.2.2.2.1.nw E XC rfl XR rfl (by rw [xr 12 43 (by simp) (by simp) 0]; exact g7), X.2.2.2.2.2.nw x7 sl (fun i j => by rw [t1 20 j (by simp) (by simp) i]; exact g8 i j) fun j => ?_⟩
    rw [t3 74 j (by simp) (by simp) 0, h3]
    by_cases y : j = 8 * (k - 1) + s
    · simp [gt_pt, y]
    · rw [if_neg y, ← g5 74 j (by simp) (by simp) 0]; simp [gt_pt, y]
  have I1 := I.fr XC rfl XR rfl
  have s14 : gt hcT 8 0 14 = gt hc 8 0 14 := XC 8 14 (by simp) (by decide) 0
  have e11 : gt hcT 1 k 1 = gt hc 1 k 1 := XC 1 1 (by simp) (by decide) k
  obtain ⟨hc', w1, w2⟩ := l_go (op := op) X1 I1 o6 (by rw [e11, zjs.fr XC rfl]; exact e)
  refine ⟨hc', hrT, ?_, ?_, w2.up (by omega)⟩
  · rw [ec]; exact w1
  · rw [g3]
    simp only [zb]
    rw [← h3]; exact er
theorem l_borrow {B : Int} {n : Nat} {S c p so s op : Int} {sid : Int → Int} {b : Nat} {k a : Int} {cx : zK} {hc hr : zH} {t m : Nat} (X : RB B n S c sid b k a cx hc hr) (I : LI k a t m cx hc hr) (E : SX n b hc hr) (e : zjs hc (gt hc 1 k 1) (t + 1) = cx) (sl : 0 ≤ s ∧ s < 8) (so01 : so = 0 ∨ so = 1) (o6 : op ≤ 6) :
    ∃ hc' hr', zb (F_X8_borrow 0 k s p so hc) (fun _ h => F_X8_doLine_223 0 k op h) = some (0, hc') ∧ (if (0 ≤ p ∧ p < gt hr 12 0 0) ∧ gt hr 52 0 p = 0 then zb (F_X12_newLoan 0 p so (-1) hr) (fun r h => if so = 1 then zb (F_X12_trace 0 r (pt h 74 0 (8 * (k - 1) + s) r)) (fun _ h => some (0, h)) else some (0, pt h 74 0 (8 * (k - 1) + s) r)) else zb (F_X12_fail 0 2 t p hr) (fun _ h => some (0, h))) = some (0, hr') ∧ RES B c (2 * b + 3 + 4 * (160 - gt hc 8 0 14)) hc' hr' := by
  have C := X.1
  have a1 := C.1
  have a4 := C.2.2.2.1
  have P := C.2.2.2.2.1
  obtain ⟨p1, p2, p3, p4⟩ := P
  have f23 : F_X8_borrow_23 0 k p hc = zb (F_X8_fail 0 k 2 p hc) (fun _ h => some (0, h)) := by
    unfold F_X8_borrow_23
    rw [if_pos (by decide)]
  have cs : F_X8_borrow 0 k s p so hc = if (0 ≤ p ∧ p < gt hr 12 0 0) ∧ gt hr 52 0 p = 0 then zb (F_X8_hire 0 k s p so hc) (fun _ h => some (0, h)) else zb (F_X8_fail 0 k 2 p hc) (fun _ h => some (0, h)) := by
    unfold F_X8_borrow F_X8_borrow_0
    rw [if_pos (by decide), pc_8_0 a1, if_pos (by decide), s_find a1 p3]
    simp only [zb]
    by_cases z : 0 ≤ p ∧ p < gt hc 3 0 1
    · have q := a4.2.2.2.1 p z.1 z.2
      rw [if_pos z, q.1, if_neg (by omega), if_pos z.1, (p4 p z.1 z.2).2.2.1]
      by_cases y : gt hr 52 0 p = 0
      · rw [if_pos y, if_pos ⟨by rw [p1]; exact z, y⟩]
      · rw [if_neg y, if_neg (fun w => y w.2)]; exact f23
    · rw [if_neg z, if_pos rfl, if_neg (fun w => z (by rw [← p1]; exact w.1))]; exact f23
  rw [cs]
  by_cases z : (0 ≤ p ∧ p < gt hr 12 0 0) ∧ gt hr 52 0 p = 0
  · rw [if_pos z, if_pos z]
    obtain ⟨hc', hr', w1, w2, w3⟩ := l_hire (op := op) X I E e sl z.1.1 z.1.2 z.2 so01 o6
    refine ⟨hc', hr', ?_, w2, w3⟩
    cases hq : F_X8_hire 0 k s p so hc with
    | none => rw [hq] at w1; exact w1
    | some v => rw [hq] at w1; exact w1
  · rw [if_neg z, if_neg z]
    obtain ⟨hc', hr', f1, f2, f3, f4⟩ := l_fail (op := op) (kd := 2) (p := p) X I.1 (by decide) (by decide)
    refine ⟨hc', hr', ?_, ?_, f4⟩
    · rw [f1]; exact f2
    · rw [f3]; rfl
theorem m_rack {so t s base : Int} {hc hr : zH} (a1 : PIc hc) (a2 : PIr hr) (a4 : SC hc) (P : RP hc hr) : ∀ (f f' : Nat) (i : Int), 0 ≤ i → i ≤ gt hc 3 0 1 → gt hc 3 0 1 - i < f → gt hc 3 0 1 - i < f' →
    ∃ r, F_X3_firstOnRack_2 f 0 so i hc = some (r, hc) ∧ F_X12_doLine_206 f' 0 t s so base i hr = F_X12_doLine_243 0 t s base (if r = -1 then gt hr 12 0 0 else r) hr ∧ (r = -1 ∨ (0 ≤ r ∧ r < gt hr 12 0 0 ∧ gt hr 52 0 r = 0))
  | 0, f', i, _, _, h, _ => by omega
  | f + 1, 0, i, _, _, _, h => by omega
  | f + 1, f' + 1, i, i0, i1, h1, h2 => by
    obtain ⟨p1, p2, p3, p4⟩ := P
    have i00 : (0 : Int) ≤ 0 := Int.le_refl 0
    by_cases c : gt hc 3 0 1 ≤ i
    · refine ⟨-1, ?_, ?_, Or.inl rfl⟩
      · show F_X3_firstOnRack_2b (F_X3_firstOnRack_2 f) 0 so i hc = _
        unfold F_X3_firstOnRack_2b
        rw [if_pos i00, if_pos c]
      · show F_X12_doLine_206b (F_X12_doLine_206 f') 0 t s so base i hr = _
        unfold F_X12_doLine_206b
        rw [if_pos i00, p1, if_pos c, if_pos rfl, show i = gt hc 3 0 1 by omega]
    · have ib : 0 ≤ i ∧ i < 60 := by omega
      have ri : -1000000 ≤ i + 1 ∧ i + 1 ≤ 1000000 := by omega
      obtain ⟨w1, w2, w3, _⟩ := p4 i i0 (by omega)
      have q := a4.2.2.2.1 i i0 (by omega)
      have c1 : F_X3_firstOnRack_2 (f + 1) 0 so i hc = if gt hr 50 0 i = so ∧ gt hr 52 0 i = 0 then some (i, hc) else F_X3_firstOnRack_2 f 0 so (i + 1) hc := by
        show F_X3_firstOnRack_2b (F_X3_firstOnRack_2 f) 0 so i hc = _
        unfold F_X3_firstOnRack_2b
        rw [if_pos i00, if_neg c, pc_3_0 a1, if_pos i00, if_pos ib, q.1, if_neg (by omega), if_pos i0, w1, w3, wI_s ri]
        by_cases d : gt hr 50 0 i = so
        · have d' : ¬ (gt hr 50 0 i ≠ so) := fun z => z d
          rw [if_neg d']
          by_cases g : gt hr 52 0 i = 0
          · have g' : ¬ (gt hr 52 0 i ≠ 0) := fun z => z g
            rw [if_neg g', if_pos ⟨d, g⟩]
          · rw [if_pos g, if_neg (fun z => g z.2)]
        · rw [if_pos d, if_neg (fun z => d z.1)]
      have c2 : F_X12_doLine_206 (f' + 1) 0 t s so base i hr = if gt hr 50 0 i = so ∧ gt hr 52 0 i = 0 then F_X12_doLine_243 0 t s base i hr else F_X12_doLine_206 f' 0 t s so base (i + 1) hr := by
        show F_X12_doLine_206b (F_X12_doLine_206 f') 0 t s so base i hr = _
        unfold F_X12_doLine_206b
        rw [if_pos i00, p1, if_neg c, pr_1 a2, if_pos i00, if_pos ib, pr_3 a2, wI_s ri]
        by_cases d : gt hr 50 0 i = so
        · have d' : ¬ (gt hr 50 0 i ≠ so) := fun z => z d
          rw [if_neg d', if_pos i00]
          by_cases g : gt hr 52 0 i = 0
          · rw [if_pos g, if_pos ⟨d, g⟩]
          · rw [if_neg g, if_neg (fun z => g z.2)]
        · rw [if_pos d, if_neg (fun z => d z.1)]
      rw [c1, c2]
      by_cases d : gt hr 50 0 i = so ∧ gt hr 52 0 i = 0
      · rw [if_pos d, if_pos d]
        exact ⟨i, rfl, by rw [if_neg (by omega)], Or.inr ⟨i0, by omega, d.2⟩⟩
      · rw [if_neg d, if_neg d]
        exact m_rack (so := so) (t := t) (s := s) (base := base) a1 a2 a4 ⟨p1, p2, p3, p4⟩ f f' (i + 1) (by omega) (by omega) (by omega) (by omega)
theorem l_take {B : Int} {n : Nat} {S c so s : Int} {sid : Int → Int} {b : Nat} {k a : Int} {cx : zK} {hc hr : zH} {t m : Nat} (X : RB B n S c sid b k a cx hc hr) (I : LI k a t m cx hc hr) (E : SX n b hc hr) (e : zjs hc (gt hc 1 k 1) (t + 1) = cx) (sl : 0 ≤ s ∧ s < 8) :
    ∃ hc' hr', zb (F_X8_take 0 k s so hc) (fun _ h => F_X8_doLine_223 0 k 1 h) = some (0, hc') ∧ F_X12_doLine_206 zF 0 t s so (8 * (k - 1)) 0 hr = some (0, hr') ∧ RES B c (2 * b + 3 + 4 * (160 - gt hc 8 0 14)) hc' hr' := by
  have C := X.1
  have a1 := C.1
  have a2 := C.2.1
  have a4 := C.2.2.2.1
  have P := C.2.2.2.2.1
  obtain ⟨p1, p2, p3, p4⟩ := P
  have hz := zF_i
  have x7 := X.at.2.2.2.2.2.2.1
  have x8 := X.at.2.2.2.2.2.2.2.1
  obtain ⟨r, r1, r2, r3⟩ := m_rack (so := so) (t := t) (s := s) (base := 8 * (k - 1)) a1 a2 a4 ⟨p1, p2, p3, p4⟩ zF zF 0 (Int.le_refl 0) p2 (by omega) (by omega)
  have cs : F_X8_take 0 k s so hc = if r = -1 then zb (F_X8_fail 0 k 7 (-1) hc) (fun _ h => some (0, h)) else zb (F_X8_hire 0 k s r 0 hc) (fun _ h => some (0, h)) := by
    unfold F_X8_take F_X8_take_0 F_X3_firstOnRack F_X3_firstOnRack_0
    rw [if_pos (by decide), pc_8_0 a1, if_pos (by decide), r1]
    simp only [zb]
    by_cases z : r = -1
    · rw [if_neg (by simpa using z), if_pos z]
    · rw [if_pos z, if_neg z]
  rw [cs, r2]
  unfold F_X12_doLine_243
  rw [if_pos (Int.le_refl 0)]
  rcases r3 with z | ⟨z1, z2, z3⟩
  · rw [if_pos z, if_pos z, if_neg (by simp)]
    obtain ⟨hc', hr', f1, f2, f3, f4⟩ := l_fail (op := 1) (kd := 7) (p := -1) X I.1 (by decide) (by decide)
    refine ⟨hc', hr', ?_, ?_, f4⟩
    · rw [f1]; exact f2
    · rw [f3]; rfl
  · have nz : ¬ r = -1 := by omega
    have ri : -1000000 ≤ 8 * (k - 1) + s ∧ 8 * (k - 1) + s ≤ 1000000 := by omega
    have rb : 0 ≤ 8 * (k - 1) + s ∧ 8 * (k - 1) + s < 88 := by omega
    have nq : r ≠ gt hr 12 0 0 := by omega
    rw [if_neg nz, if_neg nz, if_pos nq, pr_32 a2, wI_s ri]
    simp only [if_pos rb, if_pos (Int.le_refl (0 : Int))]
    obtain ⟨hc', hr', w1, w2, w3⟩ := l_hire (op := 1) (so := 0) X I E e sl z1 z2 z3 (Or.inl rfl) (by decide)
    refine ⟨hc', hr', ?_, ?_, w3⟩
    · cases hq : F_X8_hire 0 k s r 0 hc with
      | none => rw [hq] at w1; exact w1
      | some v => rw [hq] at w1; exact w1
    · simp only [show ((0 : Int) = 1) = False from by simp, if_false] at w2
      exact w2

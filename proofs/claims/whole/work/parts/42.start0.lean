def zSta (L : Nat) (xs : Nat → Int32) (c : Nat) (j : Int) : Int :=
  if c = 100 then (if j = -1 then 17 else zA100.getD j.toNat 0) else if c = 101 then (if j = -1 then 17 else zA101.getD j.toNat 0) else if c = 102 then (if j = -1 then 12 else zA102.getD j.toNat 0) else if j = -1 then (L : Int) else (xs j.toNat).toInt
/-- the heap picture at the law's entry -/
def h00 (L : Nat) (xs : Nat → Int32) : zH := (fun c => if 100 ≤ c ∧ c < 104 then 1 else 0, (fun c _ j => zSta L xs c j, (fun _ _ => 0, (0, 0))))
/-- what is left: the law, as a functional program, answers 1 -/
def zGoal : Prop := ∀ (L : Nat) (xs : Nat → Int32), L ≤ 2560 → ∃ h', F_L_law_0 (h00 L xs) = some (1, h') ∧ nn h' ≤ 600000 ∧ us h' ≤ 7302250
theorem zFx.pp {l : List Nat} {m : List (Nat × Int)} {a b : zH} (x : zFx l m a b) (c : Nat) (i j v : Int) : zFx l m (pt a c i j v) (pt b c i j v) := fun c' j' n1 n2 i' => by
  rw [gt_pt, gt_pt, x c' j' n1 n2 i']
theorem zI1_c (h : zH) : ∀ c, 50 ≤ c → cn (zI1 h) c = cn h c := fun c hc => by
  unfold zI1
  simp only [cn_pt, cn_nw]
  repeat rw [if_neg (by omega)]
def zK1 (L : Nat) (xs : Nat → Int32) : zH := zI1 (nw (h00 L xs) 11 4)
theorem k1_p (L : Nat) (xs : Nat → Int32) : PIc (pt (zK1 L xs) 11 0 3 0) := ⟨rfl, rfl, rfl, rfl, rfl, rfl, rfl, rfl, rfl, rfl, rfl, rfl, rfl, rfl, rfl, rfl, rfl, rfl, rfl, rfl, rfl, rfl, rfl, rfl, rfl, rfl, rfl, rfl⟩
theorem k1_v (L : Nat) (xs : Nat → Int32) : gt (zK1 L xs) 3 0 1 = 0 ∧ gt (zK1 L xs) 3 0 3 = 0 ∧ gt (zK1 L xs) 3 0 5 = 0 ∧ gt (zK1 L xs) 5 0 3 = 0 ∧ gt (zK1 L xs) 5 0 4 = 59 ∧ gt (zK1 L xs) 7 0 3 = 0 ∧ gt (zK1 L xs) 8 0 17 = 0 ∧ gt (zK1 L xs) 8 0 14 = 0 ∧ gt (zK1 L xs) 8 0 9 = 0 ∧ gt (zK1 L xs) 8 0 15 = 0 ∧ gt (zK1 L xs) 8 0 16 = 0 ∧ gt (zK1 L xs) 2 0 6 = 0 ∧ gt (zK1 L xs) 11 0 2 = 0 ∧ (∀ c, gt (zK1 L xs) 30 0 c = 0) ∧ (∀ c, gt (zK1 L xs) 49 0 c = -1) := ⟨rfl, rfl, rfl, rfl, rfl, rfl, rfl, rfl, rfl, rfl, rfl, rfl, rfl, fun _ => rfl, fun _ => rfl⟩
theorem k1_c (L : Nat) (xs : Nat → Int32) : cn (zK1 L xs) 6 = 0 ∧ cn (zK1 L xs) 34 = 0 ∧ cn (zK1 L xs) 35 = 0 ∧ cn (zK1 L xs) 10 = 1 ∧ cn (zK1 L xs) 43 = 1 ∧ cn (zK1 L xs) 44 = 1 ∧ cn (zK1 L xs) 45 = 1 ∧ cn (zK1 L xs) 46 = 1 ∧ cn (zK1 L xs) 47 = 1 ∧ cn (zK1 L xs) 48 = 1 ∧ cn (zK1 L xs) 1 = 0 ∧ cn (zK1 L xs) 20 = 0 ∧ cn (zK1 L xs) 0 = 0 ∧ cn (zK1 L xs) 9 = 0 ∧ cn (zK1 L xs) 4 = 0 ∧ cn (zK1 L xs) 12 = 0 ∧ nn (zK1 L xs) = 34 ∧ us (zK1 L xs) = 1152 ∧ gt (zK1 L xs) 8 0 2 = 0 ∧ gt (zK1 L xs) 8 0 4 = 0 ∧ gt (zK1 L xs) 8 0 6 = 0 ∧ gt (zK1 L xs) 8 0 8 = 0 := ⟨rfl, rfl, rfl, rfl, rfl, rfl, rfl, rfl, rfl, rfl, rfl, rfl, rfl, rfl, rfl, rfl, rfl, rfl, rfl, rfl, rfl, rfl⟩
theorem i2_p {h : zH} : PIr (zI2 (nw h 12 68)) := ⟨rfl, rfl, rfl, rfl, rfl, rfl, rfl, rfl, rfl, rfl, rfl, rfl, rfl, rfl, rfl, rfl, rfl, rfl, rfl, rfl, rfl, rfl, rfl, rfl, rfl, rfl, rfl, rfl, rfl, rfl, rfl, rfl, rfl, rfl, rfl, rfl, rfl, rfl, rfl, rfl, rfl, rfl, rfl⟩
theorem i2_v {h : zH} (h12 : cn h 12 = 0) (h58 : cn h 58 = 0) : (∀ j, j = 0 ∨ j = 4 ∨ j = 6 ∨ j = 12 ∨ j = 16 ∨ j = 62 ∨ j = 44 ∨ j = 45 ∨ j = 54 ∨ j = 55 ∨ j = 56 ∨ j = 58 → gt (zI2 (nw h 12 68)) 12 0 j = 0) ∧ gt (zI2 (nw h 12 68)) 12 0 59 = -1 ∧ ∀ c, gt (zI2 (nw h 12 68)) 58 0 c = 0 := by
  refine ⟨fun j hj => ?_, ?_, fun c => ?_⟩
  · unfold zI2
    rcases hj with rfl | rfl | rfl | rfl | rfl | rfl | rfl | rfl | rfl | rfl | rfl | rfl <;> simp [gt_pt, gt_nw, h12] <;> rfl
  · unfold zI2
    simp [gt_pt, gt_nw]
  · unfold zI2
    simp [gt_pt, gt_nw, cn_pt, cn_nw, h58]
    rfl
theorem c0 (h : zH) : nn h = nn h + 0 ∧ us h = us h + 0 := ⟨rfl, rfl⟩
theorem cp {a b : zH} {x y c : Nat} {i j v : Int} (k : nn b = nn a + x ∧ us b = us a + y) : nn (pt b c i j v) = nn a + x ∧ us (pt b c i j v) = us a + y := k
theorem cw {a b : zH} {x y c s : Nat} (k : nn b = nn a + x ∧ us b = us a + y) : nn (nw b c s) = nn a + (x + 1) ∧ us (nw b c s) = us a + (y + s) := by
  rw [nn_nw, us_nw, k.1, k.2]
  exact ⟨Nat.add_assoc .., Nat.add_assoc ..⟩
theorem i2_n0 (h : zH) : nn (zI2 h) = nn h + 43 ∧ us (zI2 h) = us h + 9424 := by
  unfold zI2
  exact (cp (cw (cp (cw (cp (cw (cp (cw (cp (cp (cw (cp (cw (cp (cw (cp (cw (cp (cw (cp (cw (cp (cw (cp (cw (cp (cw (cp (cw (cp (cw (cp (cw (cp (cw (cp (cw (cp (cw (cp (cw (cp (cw (cp (cw (cp (cw (cp (cw (cp (cw (cp (cw (cp (cw (cp (cw (cp (cw (cp (cw (cp (cw (cp (cw (cp (cw (cp (cw (cp (cw (cp (cw (cp (cw (cp (cw (cp (cw (cp (cw (cp (cw (cp (cw (cp (cw (c0 h))))))))))))))))))))))))))))))))))))))))))))))))))))))))))))))))))))))))))))))))))))))))
theorem i2_n (C : zH) : nn (zI2 (nw (pt C 11 0 3 0) 12 68)) = nn C + 44 ∧ us (zI2 (nw (pt C 11 0 3 0) 12 68)) = us C + 9492 := by
  obtain ⟨a, b⟩ := i2_n0 (nw (pt C 11 0 3 0) 12 68)
  rw [nn_nw, nn_pt] at a
  rw [us_nw, us_pt] at b
  rw [a, b]
  exact ⟨by omega, by omega⟩
theorem start_rel (L : Nat) (xs : Nat → Int32) : ∃ H1 H, F_X11_init 0 (nw (h00 L xs) 11 4) = some (0, H1) ∧ cn H1 12 = 0 ∧ F_X12_init 0 (nw H1 12 68) = some (0, H) ∧ Rel 0 H H ∧ nn H ≤ 442 ∧ us H ≤ 12966 ∧ gt H 103 = gt (h00 L xs) 103 := by
  have hz := zF_i
  have hz2 : zF = 4000000 := rfl
  have hcn : ∀ c, c < 100 → cn (h00 L xs) c = 0 := fun c hc => if_neg (by omega)
  obtain ⟨c6, c34, c35, c10, c43, c44, c45, c46, c47, c48, c1, c20, c0, c9, c4, c12, n0, u0, g2, g4, g6, g8⟩ := k1_c L xs
  have q0 : F_X11_init 0 (nw (h00 L xs) 11 4) = zb (F_X8_init_78 zF 0 0 0 (zK1 L xs)) (fun _ h4 => some (0, pt h4 11 0 3 0)) := i_1 hcn
  have K1c : ∀ c, 50 ≤ c → cn (zK1 L xs) c = cn (nw (h00 L xs) 11 4) c := zI1_c _
  have K1x : zFx [2, 3, 5, 7, 8, 10, 11, 21, 22, 23, 24, 25, 26, 27, 28, 29, 30, 31, 32, 33, 36, 37, 38, 39, 40, 41, 42, 43, 44, 45, 46, 47, 48, 49] [] (nw (h00 L xs) 11 4) (zK1 L xs) := (zI1_x _).wk rfl rfl
  have KP := k1_p L xs
  have KV := k1_v L xs
  generalize zK1 L xs = K at *
  obtain ⟨A, a1, a2, a3, a4, a5, a6⟩ := i_78 (s := 0) zF 0 K (Nat.zero_le _) (by omega) g2 c1 c20 (fun i x y => by omega)
  obtain ⟨B, b1, b2, b3, b4, b5, b6⟩ := i_112 zF 0 A (Nat.zero_le _) (by omega) ((a2 8 4 (by decide) (by decide) 0).trans g4) ((a2 8 6 (by decide) (by decide) 0).trans g6) ((a3 0 (by decide)).trans c0) ((a3 9 (by decide)).trans c9) (fun i x y => by omega)
  obtain ⟨C, d1, d2, d3, d4, d5, d6⟩ := i_159 zF 0 B (Nat.zero_le _) (by omega) ((b2 8 8 (by decide) (by decide) 0).trans ((a2 8 8 (by decide) (by decide) 0).trans g8)) ((b3 4 (by decide)).trans ((a3 4 (by decide)).trans c4)) (fun i x y => by omega)
  have fx : zFx [0, 1, 4, 9, 20, 39, 40, 41, 42] [] K C := ((a2.wk rfl rfl).tr (b2.wk rfl rfl)).tr (d2.wk rfl rfl)
  have fc : zCy [0, 1, 4, 9, 20] K C := ((a3.wk rfl).tr (b3.wk rfl)).tr (d3.wk rfl)
  have gx : zFx [0, 1, 4, 9, 20, 39, 40, 41, 42] [] (pt K 11 0 3 0) (pt C 11 0 3 0) := fx.pp _ _ _ _
  have e1 : F_X11_init 0 (nw (h00 L xs) 11 4) = some (0, pt C 11 0 3 0) := by
    have t0 : ((0 : Nat) : Int) = 0 := rfl
    rw [t0] at a1 b1 d1
    rw [q0, a1, b1, d1]
    rfl
  have hC50 : ∀ c, 50 ≤ c → c < 100 → cn (pt C 11 0 3 0) c = 0 := fun c x y => by
    show cn C c = 0
    rw [fc c (by simp; omega), K1c c x, cn_nw, if_neg (by omega)]
    exact hcn c y
  have hC12 : cn (pt C 11 0 3 0) 12 = 0 := (fc 12 (by decide)).trans c12
  have e2 := i_2 (h := pt C 11 0 3 0) hC50
  have fz := fr_X12_init e2
  have zx : zFx [12, 50, 51, 52, 53, 54, 55, 56, 57, 58, 59, 60, 61, 62, 63, 64, 65, 66, 67, 68, 69, 70, 71, 72, 73, 74, 75, 76, 77, 78, 79, 80, 81, 82, 83, 84, 85, 86, 87, 88, 89, 90, 91, 92] [] (pt C 11 0 3 0) (zI2 (nw (pt C 11 0 3 0) 12 68)) := ((zFx.rf (pt C 11 0 3 0)).n1 rfl).tr ((zI2_x _).wk rfl rfl)
  obtain ⟨v1, v2, v3⟩ := i2_v hC12 (hC50 58 (by decide) (by decide))
  have vp := i2_p (h := pt C 11 0 3 0)
  have nz : nn (zI2 (nw (pt C 11 0 3 0) 12 68)) = nn C + 44 := (i2_n _).1
  have uz : us (zI2 (nw (pt C 11 0 3 0) 12 68)) = us C + 9492 := (i2_n _).2
  generalize hH : zI2 (nw (pt C 11 0 3 0) 12 68) = H at *
  refine ⟨pt C 11 0 3 0, H, e1, hC12, e2, ?_, by omega, by omega, ?_⟩
  · have t : ∀ (c : Nat) (j : Int), ((c ≠ 12 ∧ c < 50) ∨ 100 ≤ c) → c ∉ ([0, 1, 4, 9, 20, 39, 40, 41, 42] : List Nat) → ¬ (c = 11 ∧ j = 3) → ∀ i, gt H c i j = gt K c i j := fun c j h1 h2 h3 i => by
      rw [(fz c h1).2, gt_nw, if_neg (by intro z; omega), gt_pt, if_neg (by intro z; omega)]
      exact fx c j h2 (by simp) i
    have tc : ∀ c, c ≠ 12 → c < 50 → c ∉ ([0, 1, 4, 9, 20] : List Nat) → cn H c = cn K c := fun c h1 h2 h3 => by
      rw [(fz c (Or.inl ⟨h1, h2⟩)).1, cn_nw, if_neg h1]
      exact fc c h3
    have P : PIc H := (KP.fr gx rfl).fr zx rfl
    obtain ⟨w1, w2, w3, w4, w5, w6, w7, w8, w9, w10, w11, w12, w13, w14, w15⟩ := KV
    have r0 : gt H 3 0 1 = 0 := (t 3 1 (by decide) (by decide) (by decide) 0).trans w1
    have r1 : gt H 3 0 3 = 0 := (t 3 3 (by decide) (by decide) (by decide) 0).trans w2
    have r2 : gt H 3 0 5 = 0 := (t 3 5 (by decide) (by decide) (by decide) 0).trans w3
    have r3 : gt H 5 0 3 = 0 := (t 5 3 (by decide) (by decide) (by decide) 0).trans w4
    have r4 : gt H 5 0 4 = 59 := (t 5 4 (by decide) (by decide) (by decide) 0).trans w5
    have r5 : gt H 7 0 3 = 0 := (t 7 3 (by decide) (by decide) (by decide) 0).trans w6
    have r6 : gt H 8 0 17 = 0 := (t 8 17 (by decide) (by decide) (by decide) 0).trans w7
    have r7 : gt H 8 0 14 = 0 := (t 8 14 (by decide) (by decide) (by decide) 0).trans w8
    have r8 : gt H 8 0 9 = 0 := (t 8 9 (by decide) (by decide) (by decide) 0).trans w9
    have r9 : gt H 8 0 15 = 0 := (t 8 15 (by decide) (by decide) (by decide) 0).trans w10
    have r10 : gt H 8 0 16 = 0 := (t 8 16 (by decide) (by decide) (by decide) 0).trans w11
    have r11 : gt H 2 0 6 = 0 := (t 2 6 (by decide) (by decide) (by decide) 0).trans w12
    have r12 : gt H 11 0 2 = 0 := (t 11 2 (by decide) (by decide) (by decide) 0).trans w13
    have s39 : ∀ i : Int, 0 ≤ i → i < 11 → gt H 39 0 i = i ∧ gt H 1 i 3 = i := fun i x y => by
      rw [(fz 39 (by decide)).2, (fz 1 (by decide)).2]
      obtain ⟨y1, y2⟩ := a4 i x y
      exact ⟨(d2 39 i (by decide) (by simp) 0).trans ((b2 39 i (by decide) (by simp) 0).trans y1), (d2 1 3 (by decide) (by simp) i).trans ((b2 1 3 (by decide) (by simp) i).trans y2)⟩
    have s40 : ∀ i : Int, 0 ≤ i → i < 91 → gt H 40 0 i = i ∧ gt H 41 0 i = i := fun i x y => by
      rw [(fz 40 (by decide)).2, (fz 41 (by decide)).2]
      obtain ⟨y1, y2⟩ := b4 i x y
      exact ⟨(d2 40 i (by decide) (by simp) 0).trans y1, (d2 41 i (by decide) (by simp) 0).trans y2⟩
    have s42 : ∀ i : Int, 0 ≤ i → i < 160 → gt H 42 0 i = i := fun i x y => by
      rw [(fz 42 (by decide)).2]
      exact d4 i x y
    have s49 : ∀ a : Int, gt H 49 0 a = -1 := fun a => (t 49 a (by decide) (by decide) (by omega) 0).trans (w15 a)
    have s30 : ∀ a : Int, gt H 30 0 a = 0 := fun a => (t 30 a (by decide) (by decide) (by omega) 0).trans (w14 a)
    have sST : ST H := by
      have g : ∀ c, 100 ≤ c → gt H c = gt (h00 L xs) c := fun c hc => by
        rw [(fz c (Or.inr hc)).2]
        funext i j
        rw [gt_nw, if_neg (by intro z; omega), gt_pt, if_neg (by intro z; omega), fx c j (by simp; omega) (by simp) i, K1x c j (by simp; omega) (by simp) i, gt_nw, if_neg (by intro z; omega)]
      unfold ST
      rw [g 100 (by decide), g 101 (by decide), g 102 (by decide)]
      refine ⟨rfl, rfl, rfl, fun j x y => ⟨if_neg (by omega), if_neg (by omega)⟩, fun j x y => if_neg (by omega)⟩
    refine ⟨P, vp, sST, ⟨s39, s40, s42, fun p x y => by omega, fun a x y => by omega, fun a _ _ => s49 a, fun i x y => by omega, ?_, ?_, ?_, ?_, ?_, ?_, ?_, ?_, ?_, ?_⟩, ⟨?_, ?_, ?_, fun p x y => by omega⟩, ⟨?_, ?_, ?_, fun i x y => ?_, fun i j x y z => ?_⟩, ⟨?_, ?_, ?_, fun i x y => by omega⟩, ⟨?_, ?_, ?_, ?_, fun i x y => by omega⟩, fun c x y => ?_, ⟨?_, ?_, ?_, fun n x y => by omega⟩, ⟨?_, ?_, ?_, ?_, ?_, ?_, ?_, ?_, ?_, fun i x y => by omega⟩, ⟨?_, ?_, ?_, fun i x y => ?_, fun i j x y z => ?_, fun p x y z => ?_⟩⟩
    · rw [tc 6 (by decide) (by decide) (by decide), c6, r0]
    · rw [tc 34 (by decide) (by decide) (by decide), c34, r0]
    · rw [tc 35 (by decide) (by decide) (by decide), c35, r0]
    · rw [tc 10 (by decide) (by decide) (by decide), c10, r12]; rfl
    · rw [tc 43 (by decide) (by decide) (by decide), c43, r12]; rfl
    · rw [tc 44 (by decide) (by decide) (by decide), c44, r12]; rfl
    · rw [tc 45 (by decide) (by decide) (by decide), c45, r12]; rfl
    · rw [tc 46 (by decide) (by decide) (by decide), c46, r12]; rfl
    · rw [tc 47 (by decide) (by decide) (by decide), c47, r12]; rfl
    · rw [tc 48 (by decide) (by decide) (by decide), c48, r12]; rfl
    · rw [v1 0 (by decide), r0]
    · rw [r0]; decide
    · rw [r0]; decide
    · rw [v1 4 (by decide), r1]
    · rw [r1]; decide
    · rw [r1, v1 0 (by decide)]; decide
    · rw [v1 4 (by decide)] at y; omega
    · rw [v1 4 (by decide)] at z; omega
    · rw [v1 6 (by decide), r5]
    · rw [r5]; decide
    · rw [r5]; decide
    · rw [v1 12 (by decide)]; decide
    · rw [v1 12 (by decide)]; decide
    · rw [v1 12 (by decide), r3]; rfl
    · rw [v1 12 (by decide), r4]; rfl
    · rw [s30, v3]
    · rw [v1 16 (by decide), r12]
    · rw [r12]; decide
    · rw [r12]; decide
    · rw [v1 54 (by decide), r6]
    · rw [v1 55 (by decide), r7]
    · rw [v1 45 (by decide), r11]
    · rw [v1 56 (by decide), r8]
    · rw [v1 44 (by decide), r9]
    · rw [v1 58 (by decide), r10]
    · rw [r6, v2]; rfl
    · rw [r11]; decide
    · rw [r11]; decide
    · rw [v1 62 (by decide), r2]
    · rw [r2]; decide
    · rw [r2, v1 0 (by decide)]; decide
    · rw [v1 62 (by decide)] at y; omega
    · rw [v1 62 (by decide)] at z; omega
    · rw [v1 0 (by decide)] at y; omega
  · rw [(fz 103 (Or.inr (by decide))).2]
    funext i j
    rw [gt_nw, if_neg (by intro z; omega), gt_pt, if_neg (by intro z; omega), fx 103 j (by decide) (by simp) i, K1x 103 j (by decide) (by simp) i, gt_nw, if_neg (by intro z; omega)]

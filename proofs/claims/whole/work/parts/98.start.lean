theorem st_len (j : Nat) : ((j : Int) = -1) ↔ False := ⟨fun h => by omega, fun h => h.elim⟩
set_option maxRecDepth 100000 in
set_option maxHeartbeats 4000000 in
theorem start_HR {s : State} {b L : Nat} {xs : Nat → Int32} (hL : L ≤ 2560) (hts : ∀ w ∈ lw_tbl, w.before #[Value.ref b] s = true) (hX : va_X b L xs s s.heap) (hbl : b < s.heap.size) (hgv : (Jvm.Cond.and given_1 narrow_1).before #[Value.ref b] s = true) (D : va_G) : ∃ G : zG, G.1 = s.heap.size ∧ (G.2 103).1 = b ∧ HR D G s s.heap (h00 L xs) := by
  have hs := flat_of_before _ hgv
  have hA : ∀ a : Nat, a < s.heap.size → ¬ (fun q => s.heap.size ≤ q) a := fun a h => Nat.not_le.mpr h
  obtain ⟨t100, ht100, hT100⟩ := va_Tof (tm := .static "HireScopes" "LARGEST_A" "[I") (ty := .int) (N := 17) (f := fun j => .int (Int32.ofInt (zA100.getD j 0))) (A := fun q => s.heap.size ≤ q) (by decide) (hs _ (by decide +kernel)) (va_eqt (hs _ (by decide +kernel)))
    (fun j hj => va_eqt (hs _ ((show ∀ j, j < 17 → Cond.eq (.elem (.static "HireScopes" "LARGEST_A" "[I") (.int (Int32.ofNat j))) (.int (Int32.ofInt (zA100.getD j 0))) ∈ flatC (Jvm.Cond.and given_1 narrow_1) from (by decide +kernel)) j hj))) hA
  have hZ100 := va_Zof (hts _ (List.mem_of_getElem? (i := 563) (by decide +kernel) : Cond.laysStatic "HireScopes" "LARGEST_A" "[I" ∈ lw_tbl)) (hts _ (List.mem_of_getElem? (i := 76) (by decide +kernel) : Cond.initialized "HireScopes" ∈ lw_tbl)) ht100 hA
  obtain ⟨t101, ht101, hT101⟩ := va_Tof (tm := .static "HireScopes" "LARGEST_B" "[I") (ty := .int) (N := 17) (f := fun j => .int (Int32.ofInt (zA101.getD j 0))) (A := fun q => s.heap.size ≤ q) (by decide) (hs _ (by decide +kernel)) (va_eqt (hs _ (by decide +kernel)))
    (fun j hj => va_eqt (hs _ ((show ∀ j, j < 17 → Cond.eq (.elem (.static "HireScopes" "LARGEST_B" "[I") (.int (Int32.ofNat j))) (.int (Int32.ofInt (zA101.getD j 0))) ∈ flatC (Jvm.Cond.and given_1 narrow_1) from (by decide +kernel)) j hj))) hA
  have hZ101 := va_Zof (hts _ (List.mem_of_getElem? (i := 568) (by decide +kernel) : Cond.laysStatic "HireScopes" "LARGEST_B" "[I" ∈ lw_tbl)) (hts _ (List.mem_of_getElem? (i := 76) (by decide +kernel) : Cond.initialized "HireScopes" ∈ lw_tbl)) ht101 hA
  obtain ⟨t102, ht102, hT102⟩ := va_Tof (tm := .static "HireScopes" "KIND_ABOVE" "[I") (ty := .int) (N := 12) (f := fun j => .int (Int32.ofInt (zA102.getD j 0))) (A := fun q => s.heap.size ≤ q) (by decide) (hs _ (by decide +kernel)) (va_eqt (hs _ (by decide +kernel)))
    (fun j hj => va_eqt (hs _ ((show ∀ j, j < 12 → Cond.eq (.elem (.static "HireScopes" "KIND_ABOVE" "[I") (.int (Int32.ofNat j))) (.int (Int32.ofInt (zA102.getD j 0))) ∈ flatC (Jvm.Cond.and given_1 narrow_1) from (by decide +kernel)) j hj))) hA
  have hZ102 := va_Zof (hts _ (List.mem_of_getElem? (i := 749) (by decide +kernel) : Cond.laysStatic "HireScopes" "KIND_ABOVE" "[I" ∈ lw_tbl)) (hts _ (List.mem_of_getElem? (i := 76) (by decide +kernel) : Cond.initialized "HireScopes" ∈ lw_tbl)) ht102 hA
  refine ⟨(s.heap.size, fun c => if c = 100 then (t100, 17) else if c = 101 then (t101, 17) else if c = 102 then (t102, 12) else (b, L)), rfl, rfl, rfl, fun c => ?_, fun c i hc h0 h1 => ?_, fun c i c' i' hc hc' h0 h1 => ?_, fun c h0 h1 => ?_, fun c h0 h1 => ?_⟩
  · show (0 : Int) ≤ if 100 ≤ c ∧ c < 104 then 1 else 0
    split <;> decide
  · have h1 : i < if 100 ≤ c ∧ c < 104 then 1 else 0 := h1
    rw [if_neg (by omega)] at h1
    omega
  · have h1 : i < if 100 ≤ c ∧ c < 104 then 1 else 0 := h1
    rw [if_neg (by omega)] at h1
    omega
  · have hcn : cn (h00 L xs) c = 1 := by show (if 100 ≤ c ∧ c < 104 then (1 : Int) else 0) = 1; rw [if_pos (by omega)]
    have key : ∀ (t n : Nat) (f : Nat → Int), n < 2147483648 → va_T .int t n (fun j => .int (Int32.ofInt (f j))) (fun q => s.heap.size ≤ q) s s.heap → (∀ j : Nat, j < n → gt (h00 L xs) c 0 j = f j) → gt (h00 L xs) c 0 (-1) = (n : Int) → (∀ j : Nat, j < n → rgI (f j)) → (fun c => if c = 100 then (t100, 17) else if c = 101 then (t101, 17) else if c = 102 then (t102, 12) else (b, L)) c = (t, n) → zSt (s.heap.size, fun c => if c = 100 then (t100, 17) else if c = 101 then (t101, 17) else if c = 102 then (t102, 12) else (b, L)) s s.heap (h00 L xs) c := by
      intro t n f hn hT hg hl hr he
      obtain ⟨cell, e1, e2, e3, e4, e5, e6, e7⟩ := hT
      unfold zSt
      have he : ((s.heap.size, fun c => if c = 100 then (t100, 17) else if c = 101 then (t101, 17) else if c = 102 then (t102, 12) else (b, L)) : zG).2 c = (t, n) := he
      rw [he]
      exact ⟨hcn, Nat.not_le.mp e7, ⟨hn, hl⟩, ⟨cell, e1, e2, e3, e4, e5, fun j hj => by rw [hg j hj]; exact e6 j hj⟩, fun j hj => by rw [hg j hj]; exact hr j hj⟩
    rcases (show c = 100 ∨ c = 101 ∨ c = 102 ∨ c = 103 by omega) with rfl | rfl | rfl | rfl
    · exact key t100 17 (fun j => zA100.getD j 0) (by decide) hT100 (fun j _ => by show (if (j : Int) = -1 then 17 else zA100.getD (j : Int).toNat 0) = _; rw [if_neg (by omega), Int.toNat_natCast]) rfl (show ∀ j, j < 17 → (-2147483648 ≤ zA100.getD j 0 ∧ zA100.getD j 0 < 2147483648) from (by decide)) rfl
    · exact key t101 17 (fun j => zA101.getD j 0) (by decide) hT101 (fun j _ => by show (if (j : Int) = -1 then 17 else zA101.getD (j : Int).toNat 0) = _; rw [if_neg (by omega), Int.toNat_natCast]) rfl (show ∀ j, j < 17 → (-2147483648 ≤ zA101.getD j 0 ∧ zA101.getD j 0 < 2147483648) from (by decide)) rfl
    · exact key t102 12 (fun j => zA102.getD j 0) (by decide) hT102 (fun j _ => by show (if (j : Int) = -1 then 12 else zA102.getD (j : Int).toNat 0) = _; rw [if_neg (by omega), Int.toNat_natCast]) rfl (show ∀ j, j < 12 → (-2147483648 ≤ zA102.getD j 0 ∧ zA102.getD j 0 < 2147483648) from (by decide)) rfl
    · obtain ⟨cell, e1, e2, e3, e4, e5⟩ := hX
      refine key b L (fun j => (xs j).toInt) (by omega) ⟨cell, e1, e2, e3, by omega, by rw [e4], fun j hj => ?_, Nat.not_le.mpr hbl⟩ (fun j _ => by show (if (j : Int) = -1 then (L : Int) else (xs (j : Int).toNat).toInt) = _; rw [if_neg (by omega), Int.toNat_natCast]) rfl (fun j _ => ⟨Int32.le_toInt _, Int32.toInt_lt _⟩) rfl
      rw [e5 j hj]; exact congrArg some (congrArg Value.int (Int32.ofInt_toInt _).symm)
  · rcases (show c = 100 ∨ c = 101 ∨ c = 102 by omega) with rfl | rfl | rfl
    · exact hZ100
    · exact hZ101
    · exact hZ102
set_option maxRecDepth 100000 in
set_option maxHeartbeats 4000000 in
theorem start_K {s : State} {b : Nat} (hts : ∀ w ∈ lw_tbl, w.before #[Value.ref b] s = true) : ∃ D : va_G, va_K D vwCl [] s := by
  have hz : ∀ w ∈ zTbl, w.before #[Value.ref b] s = true := fun w hw => hts w (List.mem_filter.mp hw).1
  have key : ∀ c, c < 13 → ∀ n, Cond.instantiable (zRX c) n ∈ lw_tbl → ∃ (cC : ClassId) (iS : Nat → Nat), u_Kn s (zRX c) (zTX c) (zN c) cC iS := fun c hc n hi => u_known hz (zin hc) (hts _ hi)
  obtain ⟨c0, i0, k0⟩ := key 0 (by decide) 7 (List.mem_of_getElem? (i := 288) (by decide +kernel))
  obtain ⟨c1, i1, k1⟩ := key 1 (by decide) 4 (List.mem_of_getElem? (i := 266) (by decide +kernel))
  obtain ⟨c2, i2, k2⟩ := key 2 (by decide) 7 (List.mem_of_getElem? (i := 200) (by decide +kernel))
  obtain ⟨c3, i3, k3⟩ := key 3 (by decide) 9 (List.mem_of_getElem? (i := 99) (by decide +kernel))
  obtain ⟨c4, i4, k4⟩ := key 4 (by decide) 8 (List.mem_of_getElem? (i := 341) (by decide +kernel))
  obtain ⟨c5, i5, k5⟩ := key 5 (by decide) 5 (List.mem_of_getElem? (i := 129) (by decide +kernel))
  obtain ⟨c6, i6, k6⟩ := key 6 (by decide) 8 (List.mem_of_getElem? (i := 457) (by decide +kernel))
  obtain ⟨c7, i7, k7⟩ := key 7 (by decide) 4 (List.mem_of_getElem? (i := 107) (by decide +kernel))
  obtain ⟨c8, i8, k8⟩ := key 8 (by decide) 18 (List.mem_of_getElem? (i := 186) (by decide +kernel))
  obtain ⟨c9, i9, k9⟩ := key 9 (by decide) 3 (List.mem_of_getElem? (i := 322) (by decide +kernel))
  obtain ⟨c10, i10, k10⟩ := key 10 (by decide) 10 (List.mem_of_getElem? (i := 230) (by decide +kernel))
  obtain ⟨c11, i11, k11⟩ := key 11 (by decide) 4 (List.mem_of_getElem? (i := 91) (by decide +kernel))
  obtain ⟨c12, i12, k12⟩ := key 12 (by decide) 68 (List.mem_of_getElem? (i := 937) (by decide +kernel))
  refine ⟨(fun k => if k = 0 then c0 else if k = 1 then c1 else if k = 2 then c2 else if k = 3 then c3 else if k = 4 then c4 else if k = 5 then c5 else if k = 6 then c6 else if k = 7 then c7 else if k = 8 then c8 else if k = 9 then c9 else if k = 10 then c10 else if k = 11 then c11 else c12, fun k => if k = 0 then i0 else if k = 1 then i1 else if k = 2 then i2 else if k = 3 then i3 else if k = 4 then i4 else if k = 5 then i5 else if k = 6 then i6 else if k = 7 then i7 else if k = 8 then i8 else if k = 9 then i9 else if k = 10 then i10 else if k = 11 then i11 else i12), fun k q hq => ?_, fun k q hq => by simp at hq⟩
  match k, hq with
  | 0, hq => cases hq; exact k0
  | 1, hq => cases hq; exact k1
  | 2, hq => cases hq; exact k2
  | 3, hq => cases hq; exact k3
  | 4, hq => cases hq; exact k4
  | 5, hq => cases hq; exact k5
  | 6, hq => cases hq; exact k6
  | 7, hq => cases hq; exact k7
  | 8, hq => cases hq; exact k8
  | 9, hq => cases hq; exact k9
  | 10, hq => cases hq; exact k10
  | 11, hq => cases hq; exact k11
  | 12, hq => cases hq; exact k12
  | k + 13, hq => simp [vwCl] at hq
set_option maxRecDepth 100000 in
set_option maxHeartbeats 4000000 in
theorem start_W {p : Program} {e : Env} {s : State} {m : MethodId} {below : List Frame} {meth : Method} {c : Code} (l : Launch) {b L : Nat} {xs : Nat → Int32} (hL : L ≤ 2560) (hgoal : zGoal) (C0 : lw_At p s m meth c b L xs) : W p l e room_1 s m #[Value.ref b] below meth c s.heap [] 0 0 (lw_Z below #[Value.ref b] s) (entryFrame m ([Value.ref b] : List Value).toArray 4) := by
  obtain ⟨hx, hb, hr, hml, hown, hts, hX, hbl, hlocks, hgv⟩ := id C0
  obtain ⟨D, hK⟩ := start_K hts
  obtain ⟨G, hG1, hG2, hR⟩ := start_HR hL hts hX hbl hgv D
  obtain ⟨h', hF, hn, hu⟩ := hgoal L xs hL
  have X := x_L_law_0 hF
  have hcv : cv G (h00 L xs) (vr 103 0) = .ref b := by
    show (if (0 : Int) < 0 then Value.null else .ref (ad G (h00 L xs) 103 0)) = _
    rw [if_neg (by decide)]
    unfold ad
    rw [if_neg (by decide), hG2]
  have hNw : zNw s := ⟨fun w hw hn => by
    have := hts w hw
    cases w <;> first | exact va_Nw.of rfl this | exact absurd hn (by simp [zNest]), fun C hC => va_AO.of (hts _ hC)⟩
  have hlv := lv_entry ([.ref b]) (n := 4) (Nat.le_of_ble_eq_true rfl)
  rw [lg_entry_eq]
  have K := X.2 p l e room_1 s m #[Value.ref b] below meth c D G 0 0 (lw_Z below #[Value.ref b] s)
    ⟨hx, hb, hml, hown, fun w hw => hts w (List.mem_filter.mp hw).1, fun z => (by cases z), (by decide), (by decide), hK, hNw⟩
    (fun r h2 q => by rw [q.2]; exact ⟨by show nn h' ≤ 0 + 600000; omega, by show us h' ≤ 0 + 7302250; omega⟩)
    (fun r h2 H ls locs pc' q hR' hv ht hlo => by
      obtain ⟨rfl, rfl⟩ := q
      refine va_forget (fun q hq => by rw [← hG1]; exact hlo q hq) (W.widen (k := 600000) (n := 7302250) (by omega) (by omega) ?_)
      exact lw_ret hx hb hr hlocks ht.1)
    (Nat.le_refl _) (Nat.le_refl _) s.heap _ [] hR ⟨hlv.1, hlv.2.1, rfl, fun i v hi => by
      match i, hi with
      | 0, hi => cases hi; rw [hcv]; exact hlv.2.2 (0, .ref b) List.mem_cons_self
      | 1, hi => cases hi
      | 2, hi => cases hi
      | 3, hi => cases hi
      | i + 4, hi => simp at hi⟩ (fun i v hi => by
      match i, hi with
      | 0, hi => cases hi; exact Or.inr ⟨Int.le_refl _, by show (0 : Int) < 1; decide⟩
      | 1, hi => cases hi
      | 2, hi => cases hi
      | 3, hi => cases hi
      | i + 4, hi => simp at hi) (fun v hv => by cases hv) (fun q hq => by cases hq)
  exact K

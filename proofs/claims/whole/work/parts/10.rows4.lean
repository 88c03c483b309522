/-! ROWS of Ex: arrays, new cells, static arrays -/
def zKd (c t n : Nat) : Prop := 20 ≤ c ∧ c < 100 ∧ zE c = t ∧ zL c = n ∧ n < 2147483648
theorem HR.arr {D : va_G} {G : zG} {U : State} {H : Heap} {h : zH} (k : HR D G U H h) {c t n : Nat} {i : Int} (hk : zKd c t n) (hv : okV h (vr c i)) (hi : 0 ≤ i) : i < cn h c ∧ ad G h c i = G.1 + ps h c i ∧ (∃ cA, H[ad G h c i]? = some (arrV cA n (fun j => cv G h (mk t (gt h c i j)))) ∧ zAr U (zft t) cA) ∧ (∀ j : Nat, j < n → okT h t (gt h c i j)) ∧ cv G h (vr c i) = .ref (ad G h c i) := by
  obtain ⟨h1, h2, rfl, rfl, -⟩ := hk
  have hlt : i < cn h c := by
    rcases (show i = -1 ∨ (0 ≤ i ∧ i < cn h c) from hv) with q | q
    · omega
    · exact q.2
  obtain ⟨a, b, e⟩ := k.2.2.1 c i h2 hi hlt
  refine ⟨hlt, ?_, b.2 h1, fun j hj => ?_, ?_⟩
  · unfold ad; rw [if_pos h2]
  · have := e j (by unfold zsN; rw [if_neg (by omega)]; exact hj)
    unfold zsT at this
    rw [if_neg (by omega)] at this
    exact this
  · show (if i < 0 then Value.null else .ref (ad G h c i)) = _
    rw [if_neg (by omega)]
theorem arr_in {cA : ClassId} {n : Nat} {f : Nat → Value} {j : Int} (h0 : 0 ≤ j) (h1 : j < (n : Int)) (hn : n < 2147483648) : ¬ (Int32.ofInt j < 0 ∨ (arrV cA n f).slots.size ≤ (Int32.ofInt j).toNatClampNeg) ∧ (arrV cA n f).slots[(Int32.ofInt j).toNatClampNeg]? = some (f j.toNat) ∧ (Int32.ofInt j).toNatClampNeg = j.toNat := by
  have hr : rgI j := ⟨by omega, by omega⟩
  rw [arrV_size, ofI_clamp hr]
  refine ⟨?_, arrV_read _ _ (by omega), rfl⟩
  have := ofI_in h0 h1 hn
  rw [ofI_clamp hr] at this
  exact this
section EA
variable {d : Nat} {M : zM} {pc q : Nat} {lo : List (Option zV)} {st : List zV} {h : zH} {Q : zQ}
theorem ex_iald {c n : Nat} {i j : Int} (hd : decode M.2.1 pc = .ok (.iaload, 1)) (hq : pc + 1 = q) (hk : zKd c 0 n) (hi : 0 ≤ i) (h0 : 0 ≤ j) (h1 : j < (n : Int)) (k : Ex d M q lo (vi (gt h c i j) :: st) h Q) : Ex d M pc lo (vi j :: vr c i :: st) h Q := by
  subst hq
  refine ⟨k.1, fun p l e R s m args below meth cd D G n0 u0 Qm cx room ret hn hu H ls locs hR hL okl oks hlo => ?_⟩
  obtain ⟨b1, b2, ⟨cA, b3, b4⟩, b5, b6⟩ := hR.arr hk oks.tl.hd hi
  have e1 : ((j.toNat : Nat) : Int) = j := Int.toNat_of_nonneg h0
  have hT := b5 j.toNat (by omega)
  rw [e1] at hT
  obtain ⟨a1, a2, a3⟩ := arr_in (cA := cA) (f := fun j => cv G h (mk 0 (gt h c i j))) h0 h1 hk.2.2.2.2
  rw [e1] at a2
  rw [List.map_cons, List.map_cons, b6]
  exact W.iald cx.1 cx.2.1 b3 (b4.1 n _) (fun q => by cases q) a1 a2 rfl rfl hd (k.2 p l e R s m args below meth cd D G n0 u0 Qm cx room ret hn hu H ls locs hR hL okl (okS.cons (hT.1 rfl) oks.tl.tl) hlo)
theorem ex_lald {c n : Nat} {i j : Int} (hd : decode M.2.1 pc = .ok (.laload, 1)) (hq : pc + 1 = q) (hk : zKd c 1 n) (hi : 0 ≤ i) (h0 : 0 ≤ j) (h1 : j < (n : Int)) (k : Ex d M q lo (vl (gt h c i j) :: st) h Q) : Ex d M pc lo (vi j :: vr c i :: st) h Q := by
  subst hq
  refine ⟨k.1, fun p l e R s m args below meth cd D G n0 u0 Qm cx room ret hn hu H ls locs hR hL okl oks hlo => ?_⟩
  obtain ⟨b1, b2, ⟨cA, b3, b4⟩, b5, b6⟩ := hR.arr hk oks.tl.hd hi
  have e1 : ((j.toNat : Nat) : Int) = j := Int.toNat_of_nonneg h0
  have hT := b5 j.toNat (by omega)
  rw [e1] at hT
  obtain ⟨a1, a2, a3⟩ := arr_in (cA := cA) (f := fun j => cv G h (mk 1 (gt h c i j))) h0 h1 hk.2.2.2.2
  rw [e1] at a2
  rw [List.map_cons, List.map_cons, b6]
  exact W.lald cx.1 cx.2.1 b3 (b4.1 n _) (fun q => by cases q) a1 a2 rfl rfl hd (k.2 p l e R s m args below meth cd D G n0 u0 Qm cx room ret hn hu H ls locs hR hL okl (okS.cons (hT.2.1 rfl) oks.tl.tl) hlo)
theorem ex_bald {c n : Nat} {i j : Int} (hd : decode M.2.1 pc = .ok (.baload, 1)) (hq : pc + 1 = q) (hk : zKd c 2 n) (hi : 0 ≤ i) (h0 : 0 ≤ j) (h1 : j < (n : Int)) (k : Ex d M q lo (vi (gt h c i j) :: st) h Q) : Ex d M pc lo (vi j :: vr c i :: st) h Q := by
  subst hq
  refine ⟨k.1, fun p l e R s m args below meth cd D G n0 u0 Qm cx room ret hn hu H ls locs hR hL okl oks hlo => ?_⟩
  obtain ⟨b1, b2, ⟨cA, b3, b4⟩, b5, b6⟩ := hR.arr hk oks.tl.hd hi
  have e1 : ((j.toNat : Nat) : Int) = j := Int.toNat_of_nonneg h0
  have hT := b5 j.toNat (by omega)
  rw [e1] at hT
  obtain ⟨a1, a2, a3⟩ := arr_in (cA := cA) (f := fun j => cv G h (mk 2 (gt h c i j))) h0 h1 hk.2.2.2.2
  rw [e1] at a2
  rw [List.map_cons, List.map_cons, b6]
  exact W.zald cx.1 cx.2.1 b3 (b4.1 n _) (fun q => by cases q) a1 a2 rfl rfl hd (k.2 p l e R s m args below meth cd D G n0 u0 Qm cx room ret hn hu H ls locs hR hL okl (okS.cons (okV_mk hT) oks.tl.tl) hlo)
theorem ex_aald {c n : Nat} (kd : Nat) {i j : Int} (hd : decode M.2.1 pc = .ok (.aaload, 1)) (hq : pc + 1 = q) (hk : zKd c (10 + kd) n) (hkd : kd < 13) (hi : 0 ≤ i) (h0 : 0 ≤ j) (h1 : j < (n : Int)) (k : Ex d M q lo (vr kd (gt h c i j) :: st) h Q) : Ex d M pc lo (vi j :: vr c i :: st) h Q := by
  subst hq
  refine ⟨k.1, fun p l e R s m args below meth cd D G n0 u0 Qm cx room ret hn hu H ls locs hR hL okl oks hlo => ?_⟩
  obtain ⟨b1, b2, ⟨cA, b3, b4⟩, b5, b6⟩ := hR.arr hk oks.tl.hd hi
  have e1 : ((j.toNat : Nat) : Int) = j := Int.toNat_of_nonneg h0
  have hT := b5 j.toNat (by omega)
  rw [e1] at hT
  have hm : mk (10 + kd) (gt h c i j) = vr kd (gt h c i j) := by unfold mk; rw [if_neg (by omega), if_neg (by omega), show 10 + kd - 10 = kd by omega]
  obtain ⟨a1, a2, a3⟩ := arr_in (cA := cA) (f := fun j => cv G h (mk (10 + kd) (gt h c i j))) h0 h1 hk.2.2.2.2
  rw [e1] at a2
  rw [List.map_cons, List.map_cons, b6]
  have K := k.2 p l e R s m args below meth cd D G n0 u0 Qm cx room ret hn hu H ls locs hR hL okl (okS.cons (by rw [← hm]; exact okV_mk hT) oks.tl.tl) hlo
  rw [List.map_cons, ← hm] at K
  have hty : (zft (10 + kd)).isReference = true := by unfold zft zft0; rw [if_pos (by omega), if_neg (by omega), if_neg (by omega), if_neg (by omega)]; rfl
  exact W.aald cx.1 cx.2.1 b3 (b4.1 n _) hty (fun q => by cases q) a1 a2 rfl rfl hd K
theorem HR.putA {D : va_G} {G : zG} {U : State} {H H' : Heap} {h : zH} (k : HR D G U H h) {c t n : Nat} {i j x : Int} (hk : zKd c t n) (hi : 0 ≤ i) (hlt : i < cn h c) (h0 : 0 ≤ j) (h1 : j < (n : Int)) (hT : okT h t x) {cA : ClassId} (hA : zAr U (zft t) cA) (e1 : H'[ad G h c i]? = some ((arrV cA n (fun j => cv G h (mk t (gt h c i j)))).setSlot j.toNat (cv G h (mk t x)))) (e2 : H'.size = H.size) (e3 : ∀ q, q ≠ ad G h c i → H'[q]? = H[q]?) : HR D G U H' (pt h c i j x) := by
  obtain ⟨k1, k2, rfl, rfl, -⟩ := hk
  refine k.put k2 hi hlt (fun j' _ _ => ?_) e2 e3 ⟨fun z => by omega, fun _ => ⟨cA, ?_, hA⟩⟩
  · unfold zsT; rw [if_neg (by omega)]; exact hT
  · show H'[ad G h c i]? = _
    rw [e1, arrV_store]
    refine congrArg some (arrV_congr fun z hz => ?_)
    unfold updV
    rw [gt_pt]
    by_cases hzj : z = j.toNat
    · rw [if_pos hzj, if_pos ⟨rfl, rfl, by omega⟩]; rfl
    · rw [if_neg hzj, if_neg fun w => hzj (by omega)]; rfl
theorem ex_iast {c n : Nat} {i j x : Int} (hd : decode M.2.1 pc = .ok (.iastore, 1)) (hq : pc + 1 = q) (hk : zKd c 0 n) (hi : 0 ≤ i) (h0 : 0 ≤ j) (h1 : j < (n : Int)) (k : Ex d M q lo st (pt h c i j x) Q) : Ex d M pc lo (vi x :: vi j :: vr c i :: st) h Q := by
  subst hq
  refine ex_hp k zXt.pt (fun _ a b => ⟨a.xt zXt.pt, b.tl.tl.tl.xt zXt.pt⟩) fun p l e R s m args below meth cd D G cells slots Qm H ls locs cx hR hL okl oks hlo _ _ K => ?_
  obtain ⟨b1, b2, ⟨cA, b3, b4⟩, b5, b6⟩ := hR.arr hk oks.tl.tl.hd hi
  obtain ⟨a1, a2, a3⟩ := arr_in (cA := cA) (f := fun j => cv G h (mk 0 (gt h c i j))) h0 h1 hk.2.2.2.2
  rw [List.map_cons, List.map_cons, List.map_cons, b6]
  refine W.iast cx.1 cx.2.1 b3 (b4.1 n _) (fun q => by cases q) a1 rfl rfl hd fun H' e1 e2 e3 => ?_
  have K := K H' ls (locs ++ [⟨ad G h c i, (Int32.ofInt j).toNatClampNeg⟩]) (hR.putA hk hi b1 h0 h1 (okT_of (t := 0) (by decide) oks.hd (fun z => by cases z)) b4 (by rw [a3] at e1; exact e1) e2 e3) (hL.xt okl zXt.pt) (locs_put hlo (by rw [b2]; omega))
  rw [show nn (pt h c i j x) = nn h from rfl, show us (pt h c i j x) = us h from rfl, Nat.sub_self, Nat.sub_self] at K
  exact K
theorem ex_last {c n : Nat} {i j x : Int} (hd : decode M.2.1 pc = .ok (.lastore, 1)) (hq : pc + 1 = q) (hk : zKd c 1 n) (hi : 0 ≤ i) (h0 : 0 ≤ j) (h1 : j < (n : Int)) (k : Ex d M q lo st (pt h c i j x) Q) : Ex d M pc lo (vl x :: vi j :: vr c i :: st) h Q := by
  subst hq
  refine ex_hp k zXt.pt (fun _ a b => ⟨a.xt zXt.pt, b.tl.tl.tl.xt zXt.pt⟩) fun p l e R s m args below meth cd D G cells slots Qm H ls locs cx hR hL okl oks hlo _ _ K => ?_
  obtain ⟨b1, b2, ⟨cA, b3, b4⟩, b5, b6⟩ := hR.arr hk oks.tl.tl.hd hi
  obtain ⟨a1, a2, a3⟩ := arr_in (cA := cA) (f := fun j => cv G h (mk 1 (gt h c i j))) h0 h1 hk.2.2.2.2
  rw [List.map_cons, List.map_cons, List.map_cons, b6]
  refine W.last cx.1 cx.2.1 b3 (b4.1 n _) (fun q => by cases q) a1 rfl rfl hd fun H' e1 e2 e3 => ?_
  have K := K H' ls (locs ++ [⟨ad G h c i, (Int32.ofInt j).toNatClampNeg⟩]) (hR.putA hk hi b1 h0 h1 (okT_of (t := 1) (by decide) oks.hd (fun z => by cases z)) b4 (by rw [a3] at e1; exact e1) e2 e3) (hL.xt okl zXt.pt) (locs_put hlo (by rw [b2]; omega))
  rw [show nn (pt h c i j x) = nn h from rfl, show us (pt h c i j x) = us h from rfl, Nat.sub_self, Nat.sub_self] at K
  exact K
theorem ex_bast {c n : Nat} {i j x : Int} (hd : decode M.2.1 pc = .ok (.bastore, 1)) (hq : pc + 1 = q) (hk : zKd c 2 n) (hi : 0 ≤ i) (h0 : 0 ≤ j) (h1 : j < (n : Int)) (hz : x = 0 ∨ x = 1) (k : Ex d M q lo st (pt h c i j x) Q) : Ex d M pc lo (vi x :: vi j :: vr c i :: st) h Q := by
  subst hq
  refine ex_hp k zXt.pt (fun _ a b => ⟨a.xt zXt.pt, b.tl.tl.tl.xt zXt.pt⟩) fun p l e R s m args below meth cd D G cells slots Qm H ls locs cx hR hL okl oks hlo _ _ K => ?_
  obtain ⟨b1, b2, ⟨cA, b3, b4⟩, b5, b6⟩ := hR.arr hk oks.tl.tl.hd hi
  obtain ⟨a1, a2, a3⟩ := arr_in (cA := cA) (f := fun j => cv G h (mk 2 (gt h c i j))) h0 h1 hk.2.2.2.2
  rw [List.map_cons, List.map_cons, List.map_cons, b6]
  refine W.zast cx.1 cx.2.1 b3 (b4.1 n _) (fun q => by cases q) a1 rfl rfl hd fun H' e1 e2 e3 => ?_
  have en : narrow .boolean (.int (Int32.ofInt x)) = cv G h (mk 2 x) := by rcases hz with rfl | rfl <;> rfl
  have K := K H' ls (locs ++ [⟨ad G h c i, (Int32.ofInt j).toNatClampNeg⟩]) (hR.putA hk hi b1 h0 h1 (okT_of (t := 2) (by decide) oks.hd (fun _ => hz)) b4 (by rw [a3, en] at e1; exact e1) e2 e3) (hL.xt okl zXt.pt) (locs_put hlo (by rw [b2]; omega))
  rw [show nn (pt h c i j x) = nn h from rfl, show us (pt h c i j x) = us h from rfl, Nat.sub_self, Nat.sub_self] at K
  exact K
theorem ex_aast {c n kd : Nat} {i j x : Int} (hd : decode M.2.1 pc = .ok (.aastore, 1)) (hq : pc + 1 = q) (hk : zKd c (10 + kd) n) (hkd : kd < 13) (hi : 0 ≤ i) (h0 : 0 ≤ j) (h1 : j < (n : Int)) (k : Ex d M q lo st (pt h c i j x) Q) : Ex d M pc lo (vr kd x :: vi j :: vr c i :: st) h Q := by
  subst hq
  refine ex_hp k zXt.pt (fun _ a b => ⟨a.xt zXt.pt, b.tl.tl.tl.xt zXt.pt⟩) fun p l e R s m args below meth cd D G cells slots Qm H ls locs cx hR hL okl oks hlo _ _ K => ?_
  obtain ⟨b1, b2, ⟨cA, b3, b4⟩, b5, b6⟩ := hR.arr hk oks.tl.tl.hd hi
  obtain ⟨a1, a2, a3⟩ := arr_in (cA := cA) (f := fun j => cv G h (mk (10 + kd) (gt h c i j))) h0 h1 hk.2.2.2.2
  have hm : mk (10 + kd) x = vr kd x := by unfold mk; rw [if_neg (by omega), if_neg (by omega), show 10 + kd - 10 = kd by omega]
  have hty : zft (10 + kd) = .object (zRX kd) := by unfold zft zft0; rw [if_pos (by omega), if_neg (by omega), if_neg (by omega), if_neg (by omega), show 10 + kd - 10 = kd by omega]
  have hT : okT h (10 + kd) x := okT_of (t := 10 + kd) (by omega) (by rw [hm]; exact oks.hd) (fun z => by omega)
  have b4' := b4
  rw [hty] at b4'
  rw [List.map_cons, List.map_cons, List.map_cons, b6]
  have fin : ∀ H' : Heap, H'[ad G h c i]? = some ((arrV cA n (fun j => cv G h (mk (10 + kd) (gt h c i j)))).setSlot (Int32.ofInt j).toNatClampNeg (cv G h (vr kd x))) → H'.size = H.size → (∀ q, q ≠ ad G h c i → H'[q]? = H[q]?) → W p l e R s m args below meth cd H' (locs ++ [⟨ad G h c i, (Int32.ofInt j).toNatClampNeg⟩]) cells slots Qm (F0 m (pc + 1) ls (st.map (cv G h))) := fun H' e1 e2 e3 => by
    have K := K H' ls (locs ++ [⟨ad G h c i, (Int32.ofInt j).toNatClampNeg⟩]) (hR.putA hk hi b1 h0 h1 hT b4 (by rw [a3, ← hm] at e1; exact e1) e2 e3) (hL.xt okl zXt.pt) (locs_put hlo (by rw [b2]; omega))
    rw [show nn (pt h c i j x) = nn h from rfl, show us (pt h c i j x) = us h from rfl, Nat.sub_self, Nat.sub_self] at K
    exact K
  have e0 : cv G h (vr kd x) = if x < 0 then Value.null else .ref (ad G h kd x) := rfl
  by_cases hx : x < 0
  · rw [e0, if_pos hx] at fin ⊢
    exact va_WaastN (C := zRX kd) cx.1 cx.2.1 b3 (b4'.1 n _) (fun q => by cases q) a1 rfl rfl hd fin
  · rw [e0, if_neg hx] at fin ⊢
    obtain ⟨v1, v2, v3, ⟨cellV, g1, g2, g3, -⟩, v5, v6⟩ := hR.obj hkd oks.hd (by omega)
    have hKc := cx.2.2.2.2.2.2.2.2.1.1 kd _ (zcl hkd)
    have hcls := hKc.2
    obtain ⟨kA, comp, k1, k2, k3, -⟩ := b4'.2
    have hcomp : comp = D.1 kd := Option.some.inj (k3.symm.trans hcls.1)
    subst hcomp
    obtain ⟨kC, hkC, -⟩ := hcls.2
    have a1' : ¬ Int32.ofInt j < 0 ∧ (Int32.ofInt j).toNatClampNeg < (arrV cA n (fun j => cv G h (mk (10 + kd) (gt h c i j)))).slots.size := ⟨fun z => a1 (Or.inl z), Nat.not_le.mp fun z => a1 (Or.inr z)⟩
    exact W.aast cx.1 cx.2.1 b3 (fun q h => by cases h) (fun h => by cases h) k1 k2 rfl hkC a1' g1 (fun q h => by rw [g3] at h; cases h) (by rw [g2]; exact hkC) (by rw [g2]; exact va_assign hcls) rfl rfl hd fin
theorem dvz {G : zG} {h : zH} {t : Nat} (ht : t < 3 ∨ 10 ≤ t) : defaultValue (zft t) = cv G h (mk t (if t < 10 then 0 else -1)) := by
  by_cases h10 : 10 ≤ t
  · have e1 : mk t (if t < 10 then 0 else -1) = vr (t - 10) (-1) := by unfold mk; rw [if_neg (by omega), if_neg (by omega), if_neg (by omega)]
    rw [e1]
    unfold zft zft0
    by_cases h30 : t < 30
    · rw [if_pos h30, if_neg (by omega), if_neg (by omega), if_neg (by omega)]; rfl
    · rw [if_neg h30]; rfl
  · rcases (show t = 0 ∨ t = 1 ∨ t = 2 by omega) with rfl | rfl | rfl <;> rfl
theorem okT_dv {h : zH} {t : Nat} (ht : t < 3 ∨ 10 ≤ t) : okT h t (if t < 10 then 0 else -1) := by
  by_cases h10 : 10 ≤ t
  · rw [if_neg (by omega)]
    exact ⟨fun e => by omega, fun e => by omega, fun e => by omega, fun _ e => by omega, fun _ => Or.inl rfl⟩
  · rw [if_pos (by omega)]
    exact ⟨fun _ => rg0, fun _ => ⟨by decide, by decide⟩, fun _ => Or.inl rfl, fun _ _ => by omega, fun e => by omega⟩
theorem ex_new {c sz : Nat} {idx : Nat} {n : Int} (hd : decode M.2.1 pc = .ok (.new idx, 3)) (hq : pc + 3 = q) (hc : c < 13) (hsz : zN c = sz) (w1 : Cond.classLink M.1 idx (zRX c) ∈ zTbl) (w2 : Cond.instantiable (zRX c) sz ∈ zTbl) (w3 : Cond.initialized (zRX c) ∈ zTbl) (hn : cn h c = n) (k : Ex d M q lo (vr c n :: st) (nw h c sz) Q) : Ex d M pc lo st h Q := by
  subst hq; subst hsz; subst hn
  refine ex_hp k zXt.nw (fun z a b => ⟨a.xt zXt.nw, ?_⟩) fun p l e R s m args below meth cd D G cells slots Qm H ls locs cx hR hL okl oks hlo rc rs K => ?_
  · exact okS.cons (Or.inr ⟨z c, by rw [cn_nw, if_pos rfl]; omega⟩) (b.xt zXt.nw)
  · have hKn := cx.2.2.2.2.2.2.2.2.1.1 c _ (zcl hc)
    have hnn : nn (nw h c (zN c)) - nn h = 1 := by show nn h + 1 - nn h = 1; omega
    have hus : us (nw h c (zN c)) - us h = zN c := by show us h + zN c - us h = zN c; omega
    rw [hnn] at rc K
    rw [hus] at rs K
    refine W.newcK cx.1 cx.2.1 cx.2.2.2.1 (cx.2.2.2.2.1 _ w1) (cx.2.2.2.2.1 _ w2) (cx.2.2.2.2.1 _ w3) rfl hd rc rs hKn.2.1 rfl fun H1 kC hkC e1 z1 o1 => ?_
    have h0 : 0 ≤ cn h c := hR.2.1 c
    have had : ad G (nw h c (zN c)) c (cn h c) = H.size := by
      unfold ad
      rw [if_pos (by omega), hR.1]
      show G.1 + (if c = c ∧ h.1 c = h.1 c then h.2.2.2.1 else h.2.2.1 c (h.1 c)) = _
      rw [if_pos ⟨rfl, rfl⟩]; rfl
    have hzd : ∀ j : Nat, j < zN c → zdf c (j : Int) = if zT c j < 10 then 0 else -1 := fun j hj => by
      unfold zdf zsT; rw [if_pos (show c < 20 by omega), Int.toNat_natCast]
    have hB : t_OB (ad G (nw h c (zN c)) c (cn h c)) (D.1 c) (zN c) (D.2 c) H1 (fun j => cv G (nw h c (zN c)) (mk (zT c j) (gt (nw h c (zN c)) c (cn h c) j))) := by
      rw [had]
      refine (u_born (fun k => zft (zT c k)) cx.2.2.2.2.1 (zin hc) hKn hkC e1 (zty hc)).to fun j hj => ?_
      rw [gt_nw, if_pos ⟨rfl, rfl⟩, hzd j hj]
      exact dvz (ztc hc j hj)
    have hR' := hR.new (H' := H1) (c := c) (zN c) (by omega) (fun j hj => by
      unfold zsN at hj; rw [if_pos (by omega)] at hj
      unfold zsT; rw [if_pos (by omega), hzd j hj]; exact okT_dv (ztc hc j hj)) z1 (fun q hq => o1 q hq) ⟨fun _ => ⟨hc, hB⟩, fun z => by omega⟩
    have K := K H1 ls locs hR' (hL.xt okl zXt.nw) hlo
    rw [List.map_cons, mapcv_xt oks zXt.nw, show cv G (nw h c (zN c)) (vr c (cn h c)) = .ref H.size from by
      show (if cn h c < 0 then Value.null else .ref (ad G (nw h c (zN c)) c (cn h c))) = _
      rw [if_neg (by omega), had]] at K
    exact K
theorem okV_new {c sz : Nat} (z : ∀ c, 0 ≤ cn h c) : okV (nw h c sz) (vr c (cn h c)) := Or.inr ⟨z c, by rw [cn_nw, if_pos rfl]; omega⟩
/-- an array, new -/
theorem HR.newA {D : va_G} {G : zG} {U : State} {H H' : Heap} {h : zH} (k : HR D G U H h) {c t n : Nat} (hk : zKd c t n) (ht : t < 3 ∨ 10 ≤ t) {cA : ClassId} (hA : zAr U (zft t) cA) (e1 : H'[H.size]? = some (arrV cA n (fun _ => defaultValue (zft t)))) (z1 : H'.size = H.size + 1) (o1 : ∀ q, q < H.size → H'[q]? = H[q]?) : HR D G U H' (nw h c n) ∧ cv G (nw h c n) (vr c (cn h c)) = .ref H.size := by
  obtain ⟨k1, k2, rfl, rfl, -⟩ := hk
  have h0 : 0 ≤ cn h c := k.2.1 c
  have had : ad G (nw h c (zL c)) c (cn h c) = H.size := by
    unfold ad
    rw [if_pos (by omega), k.1]
    show G.1 + (if c = c ∧ h.1 c = h.1 c then h.2.2.2.1 else h.2.2.1 c (h.1 c)) = _
    rw [if_pos ⟨rfl, rfl⟩]; rfl
  have hzd : ∀ j : Int, zdf c j = if zE c < 10 then 0 else -1 := fun j => by
    unfold zdf zsT; rw [if_neg (show ¬ c < 20 by omega)]
  refine ⟨k.new (zL c) k2 (fun j hj => ?_) z1 o1 ⟨fun z => by omega, fun _ => ⟨cA, ?_, hA⟩⟩, ?_⟩
  · unfold zsT; rw [if_neg (by omega), hzd]; exact okT_dv ht
  · rw [had, e1]
    refine congrArg some (arrV_congr fun z _ => ?_)
    rw [gt_nw, if_pos ⟨rfl, rfl⟩, hzd]
    exact dvz ht
  · show (if cn h c < 0 then Value.null else .ref (ad G (nw h c (zL c)) c (cn h c))) = _
    rw [if_neg (by omega), had]
theorem ex_newa {c t sz : Nat} {at1 : ArrayType} {n x : Int} (hd : decode M.2.1 pc = .ok (.newarray at1, 2)) (hq : pc + 2 = q) (hk : zKd c t sz) (hat : newarray.typeOf at1 = zft t) (ht : t < 3) (hb : sz ≤ 5000) (w1 : Cond.arrayClass (zft t) ∈ zTbl) (hx : ((sz : Nat) : Int) = x) (hn : cn h c = n) (k : Ex d M q lo (vr c n :: st) (nw h c sz) Q) : Ex d M pc lo (vi x :: st) h Q := by
  subst hq; subst hn; subst hx
  refine ex_hp k zXt.nw (fun z a b => ⟨a.xt zXt.nw, okS.cons (okV_new z) (b.tl.xt zXt.nw)⟩) fun p l e R s m args below meth cd D G cells slots Qm H ls locs cx hR hL okl oks hlo rc rs K => ?_
  have hnn : nn (nw h c sz) - nn h = 1 := by show nn h + 1 - nn h = 1; omega
  have hus : us (nw h c sz) - us h = sz := by show us h + sz - us h = sz; omega
  rw [hnn] at rc K
  rw [hus] at rs K
  have hcb : sz * componentBytes (newarray.typeOf at1) ≤ 536870912 := by
    rw [hat]
    rcases (show t = 0 ∨ t = 1 ∨ t = 2 by omega) with rfl | rfl | rfl
    · show sz * 4 ≤ _; omega
    · show sz * 8 ≤ _; omega
    · show sz * 1 ≤ _; omega
  have hcl : (Int32.ofInt (sz : Int)).toNatClampNeg = sz := by rw [ofI_clamp ⟨by omega, by omega⟩]; omega
  refine va_newaK cx.1 cx.2.1 (by rw [hat]; exact cx.2.2.2.2.1 _ w1) rfl hd rfl (by rw [ofI_0, ofI_lt ⟨by omega, by omega⟩ rg0]; omega) hcl hcb rc rs rfl fun H1 cA e1 z1 o1 hAr hNm => ?_
  rw [hat] at e1 hAr hNm
  have hA : zAr s (zft t) cA := ⟨hAr, by rcases (show t = 0 ∨ t = 1 ∨ t = 2 by omega) with rfl | rfl | rfl <;> exact hNm⟩
  obtain ⟨hR', hcv⟩ := hR.newA hk (Or.inl ht) hA e1 z1 o1
  have K := K H1 ls locs hR' (hL.xt okl zXt.nw) hlo
  rw [List.map_cons, mapcv_xt oks.tl zXt.nw, hcv] at K
  exact K
theorem ex_anew {c kd sz : Nat} {idx : Nat} {n x : Int} (hd : decode M.2.1 pc = .ok (.anewarray idx, 3)) (hq : pc + 3 = q) (hk : zKd c (10 + kd) sz) (hkd : kd < 13) (hb : sz ≤ 5000) (w1 : Cond.classLink M.1 idx (zRX kd) ∈ zTbl) (w2 : Cond.arrayOver (.object (zRX kd)) ∈ lw_tbl) (hx : ((sz : Nat) : Int) = x) (hn : cn h c = n) (k : Ex d M q lo (vr c n :: st) (nw h c sz) Q) : Ex d M pc lo (vi x :: st) h Q := by
  subst hq; subst hn; subst hx
  refine ex_hp k zXt.nw (fun z a b => ⟨a.xt zXt.nw, okS.cons (okV_new z) (b.tl.xt zXt.nw)⟩) fun p l e R s m args below meth cd D G cells slots Qm H ls locs cx hR hL okl oks hlo rc rs K => ?_
  have hnn : nn (nw h c sz) - nn h = 1 := by show nn h + 1 - nn h = 1; omega
  have hus : us (nw h c sz) - us h = sz := by show us h + sz - us h = sz; omega
  rw [hnn] at rc K
  rw [hus] at rs K
  have hty : zft (10 + kd) = .object (zRX kd) := by unfold zft zft0; rw [if_pos (by omega), if_neg (by omega), if_neg (by omega), if_neg (by omega), show 10 + kd - 10 = kd by omega]
  have hcl : (Int32.ofInt (sz : Int)).toNatClampNeg = sz := by rw [ofI_clamp ⟨by omega, by omega⟩]; omega
  refine W.anew cx.1 cx.2.1 cx.2.2.2.1 (cx.2.2.2.2.1 _ w1) (va_AO.use (cx.2.2.2.2.2.2.2.2.2.2 _ w2)) rfl hd rfl (by rw [ofI_0, ofI_lt ⟨by omega, by omega⟩ rg0]; omega) (by rw [hcl]; omega) rc (by rw [hcl]; exact rs) fun cA kA comp f1 f2 f3 f4 => ?_
  rw [hcl]
  have hA : zAr s (zft (10 + kd)) cA := by
    rw [hty]
    exact ⟨fun N z => ⟨(fun k h => by cases h), kA, f2, comp, f3⟩, kA, comp, f2, f3, f4, f1⟩
  obtain ⟨hR', hcv⟩ := hR.newA (H' := H.push ({ cls := cA, slots := Array.replicate sz .null, vm := .none } : Cell)) hk (Or.inr (by omega)) hA (by rw [Array.getElem?_push_size, hty, arrV_new]; rfl) (by rw [Array.size_push]) (fun q hq => by rw [Array.getElem?_push, if_neg (Nat.ne_of_lt hq)])
  have K := K _ ls locs hR' (hL.xt okl zXt.nw) hlo
  rw [List.map_cons, mapcv_xt oks.tl zXt.nw, hcv] at K
  exact K
theorem ex_alen {c t n : Nat} {i x : Int} (hd : decode M.2.1 pc = .ok (.arraylength, 1)) (hq : pc + 1 = q) (hk : zKd c t n) (hi : 0 ≤ i) (hx : ((n : Nat) : Int) = x) (k : Ex d M q lo (vi x :: st) h Q) : Ex d M pc lo (vr c i :: st) h Q := by
  subst hq; subst hx
  refine ⟨k.1, fun p l e R s m args below meth cd D G n0 u0 Qm cx room ret hn hu H ls locs hR hL okl oks hlo => ?_⟩
  obtain ⟨b1, b2, ⟨cA, b3, b4⟩, b5, b6⟩ := hR.arr hk oks.hd hi
  have hn := hk.2.2.2.2
  rw [List.map_cons, b6]
  exact W.alen cx.1 cx.2.1 b3 (b4.1 n _) (by rw [arrV_size]; exact (Int32.ofInt_eq_ofNat (n := n)).symm) rfl rfl hd (k.2 p l e R s m args below meth cd D G n0 u0 Qm cx room ret (by assumption) hu H ls locs hR hL okl (okS.cons ⟨by omega, by omega⟩ oks.tl) hlo)
/-- the static arrays and the script -/
theorem ex_ialdS {c : Nat} {j : Int} (hd : decode M.2.1 pc = .ok (.iaload, 1)) (hq : pc + 1 = q) (hc : 100 ≤ c) (hc2 : c < 104) (h0 : 0 ≤ j) (h1 : j < gt h c 0 (-1)) (k : Ex d M q lo (vi (gt h c 0 j) :: st) h Q) : Ex d M pc lo (vi j :: vr c 0 :: st) h Q := by
  subst hq
  refine ⟨k.1, fun p l e R s m args below meth cd D G n0 u0 Qm cx room ret hn hu H ls locs hR hL okl oks hlo => ?_⟩
  obtain ⟨a1, a2, ⟨a3, a4⟩, ⟨cell, e1, e2, e3, e4, e5, e6⟩, a5⟩ := hR.2.2.2.2.1 c hc hc2
  have ej : ((j.toNat : Nat) : Int) = j := Int.toNat_of_nonneg h0
  rw [a4] at h1
  have hr : rgI j := ⟨by omega, by omega⟩
  have g1 := e6 j.toNat (by omega)
  have g2 := a5 j.toNat (by omega)
  rw [ej] at g1 g2
  rw [List.map_cons, List.map_cons, show cv G h (vr c 0) = .ref (G.2 c).1 from by
    show (if (0 : Int) < 0 then Value.null else .ref (ad G h c 0)) = _
    rw [if_neg (by omega)]; unfold ad; rw [if_neg (by omega)]]
  refine W.iald cx.1 cx.2.1 e1 e2 e3 ?_ (by rw [ofI_clamp hr]; exact g1) rfl rfl hd (k.2 p l e R s m args below meth cd D G n0 u0 Qm cx room ret hn hu H ls locs hR hL okl (okS.cons g2 oks.tl.tl) hlo)
  rw [ofI_0, ofI_lt hr rg0, ofI_clamp hr]
  omega
theorem ex_alenS {c : Nat} (hd : decode M.2.1 pc = .ok (.arraylength, 1)) (hq : pc + 1 = q) (hc : 100 ≤ c) (hc2 : c < 104) (k : Ex d M q lo (vi (gt h c 0 (-1)) :: st) h Q) : Ex d M pc lo (vr c 0 :: st) h Q := by
  subst hq
  refine ⟨k.1, fun p l e R s m args below meth cd D G n0 u0 Qm cx room ret hn hu H ls locs hR hL okl oks hlo => ?_⟩
  obtain ⟨a1, a2, ⟨a3, a4⟩, ⟨cell, e1, e2, e3, e4, e5, e6⟩, a5⟩ := hR.2.2.2.2.1 c hc hc2
  rw [List.map_cons, show cv G h (vr c 0) = .ref (G.2 c).1 from by
    show (if (0 : Int) < 0 then Value.null else .ref (ad G h c 0)) = _
    rw [if_neg (by omega)]; unfold ad; rw [if_neg (by omega)]]
  refine W.alen cx.1 cx.2.1 e1 e2 (e5.trans (by rw [a4]; exact (Int32.ofInt_eq_ofNat (n := (G.2 c).2)).symm)) rfl rfl hd (k.2 p l e R s m args below meth cd D G n0 u0 Qm cx room ret hn hu H ls locs hR hL okl (okS.cons (show rgI _ from ?_) oks.tl) hlo)
  rw [a4]; exact ⟨by omega, by omega⟩
def zSL (own : String) (idx c : Nat) : Prop := 100 ≤ c ∧ c < 103 ∧ (Cond.fieldLink own idx "HireScopes" (zsn c) "[I" ∈ zTbl ∨ ∃ host, Cond.fieldLinkNest own idx "HireScopes" (zsn c) "[I" host ∈ lw_tbl)
theorem ex_gets {c idx : Nat} (hd : decode M.2.1 pc = .ok (.getstatic idx, 3)) (hq : pc + 3 = q) (hl : zSL M.1 idx c) (k : Ex d M q lo (vr c 0 :: st) h Q) : Ex d M pc lo st h Q := by
  subst hq
  obtain ⟨hc, hc2, hl⟩ := hl
  refine ⟨k.1, fun p l e R s m args below meth cd D G n0 u0 Qm cx room ret hn hu H ls locs hR hL okl oks hlo => ?_⟩
  obtain ⟨cf, kf, fi, f, a, cell, h1, h2, h3, h4, h5, h6, h7, h8⟩ := hR.2.2.2.2.2 c hc hc2
  have a1 := (hR.2.2.2.2.1 c hc (by omega)).1
  have K := k.2 p l e R s m args below meth cd D G n0 u0 Qm cx room ret hn hu H ls locs hR hL okl (okS.cons (Or.inr ⟨Int.le_refl _, by show (0 : Int) < cn h c; omega⟩) oks) hlo
  rw [List.map_cons, show cv G h (vr c 0) = .ref (G.2 c).1 from by
    show (if (0 : Int) < 0 then Value.null else .ref (ad G h c 0)) = _
    rw [if_neg (by omega)]; unfold ad; rw [if_neg (by omega)]] at K
  rcases hl with hl | ⟨host, hl⟩
  · exact W.gets cx.1 cx.2.1 cx.2.2.2.1 (cx.2.2.2.2.1 _ hl) h1 h2 h3 h4 h5 (fun e => by rw [e] at h6; cases h6) h7 rfl hd K
  · exact va_WgetsN cx.1 cx.2.1 cx.2.2.2.1 (va_Nw.use rfl (cx.2.2.2.2.2.2.2.2.2.1 _ hl rfl)) h1 h2 h3 h4 h5 (fun e => by rw [e] at h6; cases h6) h7 rfl hd K
end EA

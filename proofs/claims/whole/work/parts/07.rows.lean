/-! ROWS of Ex that leave the heap: one an instruction. q: the next pc. -/
def wI (z : Int) : Int := if z % 4294967296 < 2147483648 then z % 4294967296 else z % 4294967296 - 4294967296
def wL (z : Int) : Int := if z % 18446744073709551616 < 9223372036854775808 then z % 18446744073709551616 else z % 18446744073709551616 - 18446744073709551616
theorem wI_bmod (z : Int) : wI z = z.bmod 4294967296 := by unfold wI; rw [Int.bmod_def]; rfl
theorem wL_bmod (z : Int) : wL z = z.bmod 18446744073709551616 := by unfold wL; rw [Int.bmod_def]; rfl
theorem wI_rg (z : Int) : rgI (wI z) := by unfold wI rgI; constructor <;> split <;> omega
theorem wL_rg (z : Int) : rgL (wL z) := by unfold wL rgL; constructor <;> split <;> omega
theorem wI_eq {z : Int} (h : rgI z) : wI z = z := by unfold rgI at h; unfold wI; split <;> omega
theorem wL_eq {z : Int} (h : rgL z) : wL z = z := by unfold rgL at h; unfold wL; split <;> omega
theorem ofI_toInt {z : Int} (h : rgI z) : (Int32.ofInt z).toInt = z := Int32.toInt_ofInt_of_le h.1 h.2
theorem ofI_w (z : Int) : Int32.ofInt (wI z) = Int32.ofInt z := Int32.toInt_inj.mp (by rw [ofI_toInt (wI_rg z), Int32.toInt_ofInt]; exact wI_bmod z)
theorem ofL_toInt {z : Int} (h : rgL z) : (Int64.ofInt z).toInt = z := Int64.toInt_ofInt_of_le h.1 h.2
theorem ofL_w (z : Int) : Int64.ofInt (wL z) = Int64.ofInt z := Int64.toInt_inj.mp (by rw [ofL_toInt (wL_rg z), Int64.toInt_ofInt]; exact wL_bmod z)
theorem ofI_inj {a b : Int} (ha : rgI a) (hb : rgI b) : Int32.ofInt a = Int32.ofInt b ↔ a = b := ⟨fun h => by rw [← ofI_toInt ha, h, ofI_toInt hb], fun h => by rw [h]⟩
theorem ofI_lt {a b : Int} (ha : rgI a) (hb : rgI b) : Int32.ofInt a < Int32.ofInt b ↔ a < b := by rw [Int32.lt_iff_toInt_lt, ofI_toInt ha, ofI_toInt hb]
theorem ofI_le {a b : Int} (ha : rgI a) (hb : rgI b) : Int32.ofInt a ≤ Int32.ofInt b ↔ a ≤ b := by rw [Int32.le_iff_toInt_le, ofI_toInt ha, ofI_toInt hb]
theorem rg0 : rgI 0 := ⟨by decide, by decide⟩
theorem ofI_0 : (0 : Int32) = Int32.ofInt 0 := rfl
theorem ofI_in {j : Int} {n : Nat} (h0 : 0 ≤ j) (h1 : j < n) (hn : n < 2147483648) : ¬ (Int32.ofInt j < 0 ∨ n ≤ (Int32.ofInt j).toNatClampNeg) := by
  have hr : rgI j := ⟨by omega, by omega⟩
  rw [ofI_0, ofI_lt hr rg0, Int32.toNatClampNeg_ofInt_of_le hr.1 hr.2]
  omega
theorem ofI_clamp {j : Int} (hr : rgI j) : (Int32.ofInt j).toNatClampNeg = j.toNat := Int32.toNatClampNeg_ofInt_of_le hr.1 hr.2
def lc (x y : Int) : Int := if x > y then 1 else if x = y then 0 else -1
theorem lc_rg (x y : Int) : rgI (lc x y) := by unfold lc rgI; split <;> (try split) <;> omega
def wA (x y : Int) : Int := (Int32.ofInt x &&& Int32.ofInt y).toInt
section ER
variable {d : Nat} {M : zM} {pc q : Nat} {lo : List (Option zV)} {st : List zV} {h : zH} {Q : zQ} {own : String} {cc : ByteArray} {nL : Nat} {rt : Option FieldType × Bool}
theorem ex_iconst {n : Int} (hd : decode M.2.1 pc = .ok (.iconst n, 1)) (hq : pc + 1 = q) (hr : rgI n) (k : Ex d M q lo (vi n :: st) h Q) : Ex d M pc lo st h Q := by
  subst hq
  exact ex_go k (fun a b => ⟨a, okS.cons hr b⟩) fun p l e R s m args below meth c D G cells slots Qm H ls locs cx hR hL okl oks K => lv_iconst cx.1 cx.2.1 hd rfl (K ls hL)
theorem ex_bipush {n : Int} (hd : decode M.2.1 pc = .ok (.bipush n, 2)) (hq : pc + 2 = q) (hv : (Int8.ofInt n).toInt32 = Int32.ofInt n) (hr : rgI n) (k : Ex d M q lo (vi n :: st) h Q) : Ex d M pc lo st h Q := by
  subst hq
  exact ex_go k (fun a b => ⟨a, okS.cons hr b⟩) fun p l e R s m args below meth c D G cells slots Qm H ls locs cx hR hL okl oks K => lv_bipush cx.1 cx.2.1 hd hv (K ls hL)
theorem ex_sipush {n : Int} (hd : decode M.2.1 pc = .ok (.sipush n, 3)) (hq : pc + 3 = q) (hv : (Int16.ofInt n).toInt32 = Int32.ofInt n) (hr : rgI n) (k : Ex d M q lo (vi n :: st) h Q) : Ex d M pc lo st h Q := by
  subst hq
  exact ex_go k (fun a b => ⟨a, okS.cons hr b⟩) fun p l e R s m args below meth c D G cells slots Qm H ls locs cx hR hL okl oks K => lv_sipush cx.1 cx.2.1 hd hv (K ls hL)
theorem ex_lconst (n : Int) {f : Fin 2} (hd : decode M.2.1 pc = .ok (.lconst f, 1)) (hq : pc + 1 = q) (hv : Int64.ofNat (f : Nat) = Int64.ofInt n) (hr : rgL n) (k : Ex d M q lo (vl n :: st) h Q) : Ex d M pc lo st h Q := by
  subst hq
  exact ex_go k (fun a b => ⟨a, okS.cons hr b⟩) fun p l e R s m args below meth c D G cells slots Qm H ls locs cx hR hL okl oks K => lv_lconst cx.1 cx.2.1 hd hv (K ls hL)
theorem ex_ldc (n : Int) {i : Nat} {v : Int32} (hd : decode M.2.1 pc = .ok (.ldc i, 2)) (hq : pc + 2 = q) (hw : Cond.constant M.1 i v ∈ zTbl) (hv : v = Int32.ofInt n) (hr : rgI n) (k : Ex d M q lo (vi n :: st) h Q) : Ex d M pc lo st h Q := by
  subst hq; subst hv
  exact ex_go k (fun a b => ⟨a, okS.cons hr b⟩) fun p l e R s m args below meth c D G cells slots Qm H ls locs cx hR hL okl oks K => lv_ldc cx.1 cx.2.1 cx.2.2.2.1 (cx.2.2.2.2.1 _ hw) hd (K ls hL)
theorem ex_ldc2 (n : Int) {i : Nat} {v : Int64} (hd : decode M.2.1 pc = .ok (.ldc2_w i, 3)) (hq : pc + 3 = q) (hw : Cond.constantLong M.1 i v ∈ zTbl) (hv : v = Int64.ofInt n) (hr : rgL n) (k : Ex d M q lo (vl n :: st) h Q) : Ex d M pc lo st h Q := by
  subst hq; subst hv
  exact ex_go k (fun a b => ⟨a, okS.cons hr b⟩) fun p l e R s m args below meth c D G cells slots Qm H ls locs cx hR hL okl oks K => lv_ldc2 cx.1 cx.2.1 cx.2.2.2.1 (cx.2.2.2.2.1 _ hw) hd (K ls hL)
theorem ex_null (kd : Nat) (hd : decode M.2.1 pc = .ok (.aconst_null, 1)) (hq : pc + 1 = q) (k : Ex d M q lo (vr kd (-1) :: st) h Q) : Ex d M pc lo st h Q := by
  subst hq
  exact ex_go k (fun a b => ⟨a, okS.cons (Or.inl rfl) b⟩) fun p l e R s m args below meth c D G cells slots Qm H ls locs cx hR hL okl oks K => lv_null cx.1 cx.2.1 hd (K ls hL)
theorem ex_iload_n {f : Fin 4} {x : Int} (hd : decode M.2.1 pc = .ok (.iload_n f, 1)) (hq : pc + 1 = q) (hl : lo[(f : Nat)]? = some (some (vi x))) (k : Ex d M q lo (vi x :: st) h Q) : Ex d M pc lo st h Q := by
  subst hq
  exact ex_go k (fun a b => ⟨a, okS.cons (a _ _ hl) b⟩) fun p l e R s m args below meth c D G cells slots Qm H ls locs cx hR hL okl oks K => lv_iload_n cx.1 cx.2.1 hd rfl (hL.2.2.2 _ _ hl) (K ls hL)
theorem ex_iload {i : Nat} {x : Int} (hd : decode M.2.1 pc = .ok (.iload i, 2)) (hq : pc + 2 = q) (hl : lo[i]? = some (some (vi x))) (k : Ex d M q lo (vi x :: st) h Q) : Ex d M pc lo st h Q := by
  subst hq
  exact ex_go k (fun a b => ⟨a, okS.cons (a _ _ hl) b⟩) fun p l e R s m args below meth c D G cells slots Qm H ls locs cx hR hL okl oks K => lv_iload cx.1 cx.2.1 hd (hL.2.2.2 _ _ hl) (K ls hL)
theorem ex_lload_n {f : Fin 4} {x : Int} (hd : decode M.2.1 pc = .ok (.lload_n f, 1)) (hq : pc + 1 = q) (hl : lo[(f : Nat)]? = some (some (vl x))) (k : Ex d M q lo (vl x :: st) h Q) : Ex d M pc lo st h Q := by
  subst hq
  exact ex_go k (fun a b => ⟨a, okS.cons (a _ _ hl) b⟩) fun p l e R s m args below meth c D G cells slots Qm H ls locs cx hR hL okl oks K => lv_lload_n cx.1 cx.2.1 hd rfl (hL.2.2.2 _ _ hl) (K ls hL)
theorem ex_lload {i : Nat} {x : Int} (hd : decode M.2.1 pc = .ok (.lload i, 2)) (hq : pc + 2 = q) (hl : lo[i]? = some (some (vl x))) (k : Ex d M q lo (vl x :: st) h Q) : Ex d M pc lo st h Q := by
  subst hq
  exact ex_go k (fun a b => ⟨a, okS.cons (a _ _ hl) b⟩) fun p l e R s m args below meth c D G cells slots Qm H ls locs cx hR hL okl oks K => lv_lload cx.1 cx.2.1 hd (hL.2.2.2 _ _ hl) (K ls hL)
theorem ex_aload_n {f : Fin 4} {kd : Nat} {x : Int} (hd : decode M.2.1 pc = .ok (.aload_n f, 1)) (hq : pc + 1 = q) (hl : lo[(f : Nat)]? = some (some (vr kd x))) (k : Ex d M q lo (vr kd x :: st) h Q) : Ex d M pc lo st h Q := by
  subst hq
  refine ex_go k (fun a b => ⟨a, okS.cons (a _ _ hl) b⟩) fun p l e R s m args below meth c D G cells slots Qm H ls locs cx hR hL okl oks K => ?_
  have hg := hL.2.2.2 _ _ hl
  have K := K ls hL
  have e1 : cv G h (vr kd x) = if x < 0 then Value.null else .ref (ad G h kd x) := rfl
  rw [e1] at hg
  rw [List.map_cons, e1] at K
  by_cases hx : x < 0
  · rw [if_pos hx] at hg K; exact lv_aload_nN cx.1 cx.2.1 hd rfl hg K
  · rw [if_neg hx] at hg K; exact lv_aload_n cx.1 cx.2.1 hd rfl hg K
theorem ex_aload {i : Nat} {kd : Nat} {x : Int} (hd : decode M.2.1 pc = .ok (.aload i, 2)) (hq : pc + 2 = q) (hl : lo[i]? = some (some (vr kd x))) (k : Ex d M q lo (vr kd x :: st) h Q) : Ex d M pc lo st h Q := by
  subst hq
  refine ex_go k (fun a b => ⟨a, okS.cons (a _ _ hl) b⟩) fun p l e R s m args below meth c D G cells slots Qm H ls locs cx hR hL okl oks K => ?_
  have hg := hL.2.2.2 _ _ hl
  have K := K ls hL
  have e1 : cv G h (vr kd x) = if x < 0 then Value.null else .ref (ad G h kd x) := rfl
  rw [e1] at hg
  rw [List.map_cons, e1] at K
  by_cases hx : x < 0
  · rw [if_pos hx] at hg K; exact lv_aloadN cx.1 cx.2.1 hd hg K
  · rw [if_neg hx] at hg K; exact lv_aload cx.1 cx.2.1 hd hg K
theorem ex_istore_n {f : Fin 4} {x : Int} {lo' : List (Option zV)} (hd : decode M.2.1 pc = .ok (.istore_n f, 1)) (hq : pc + 1 = q) (hn : (f : Nat) < M.2.2.1) (hg : zNg lo f = true) (hlo : lo.set f (some (vi x)) = lo') (k : Ex d M q lo' st h Q) : Ex d M pc lo (vi x :: st) h Q := by
  subst hq; subst hlo
  exact ex_go k (fun a b => ⟨a.set b.hd, b.tl⟩) fun p l e R s m args below meth c D G cells slots Qm H ls locs cx hR hL okl oks K => lv_istore_n cx.1 cx.2.1 hd rfl hL.has hn rfl fun ls' k' => K ls' (hL.set1 (v := vi x) hg k')
theorem ex_istore {i : Nat} {x : Int} {lo' : List (Option zV)} (hd : decode M.2.1 pc = .ok (.istore i, 2)) (hq : pc + 2 = q) (hn : i < M.2.2.1) (hg : zNg lo i = true) (hlo : lo.set i (some (vi x)) = lo') (k : Ex d M q lo' st h Q) : Ex d M pc lo (vi x :: st) h Q := by
  subst hq; subst hlo
  exact ex_go k (fun a b => ⟨a.set b.hd, b.tl⟩) fun p l e R s m args below meth c D G cells slots Qm H ls locs cx hR hL okl oks K => lv_istore cx.1 cx.2.1 hd hL.has hn rfl fun ls' k' => K ls' (hL.set1 (v := vi x) hg k')
theorem ex_lstore_n {f : Fin 4} {x : Int} {lo' : List (Option zV)} (hd : decode M.2.1 pc = .ok (.lstore_n f, 1)) (hq : pc + 1 = q) (hn : (f : Nat) + 1 < M.2.2.1) (hg : zNg lo f = true) (hlo : (lo.set f (some (vl x))).set (f + 1) none = lo') (k : Ex d M q lo' st h Q) : Ex d M pc lo (vl x :: st) h Q := by
  subst hq; subst hlo
  exact ex_go k (fun a b => ⟨(a.set b.hd).setN, b.tl⟩) fun p l e R s m args below meth c D G cells slots Qm H ls locs cx hR hL okl oks K => lv_lstore_n cx.1 cx.2.1 hd rfl hL.has hn rfl fun ls' k' => K ls' (hL.set2 (v := vl x) hg k')
theorem lv_astN_n {p : Program} {l : Launch} {e : Env} {R : Room} {s : State} {m : MethodId} {args : Array Value} {below : List Frame} {meth : Method} {c : Code} {H : Heap} {locs : List Loc} {cells slots : Nat} {Qm : State → Prop} {ls : Array Slot} {rest : List Value} (hexec : p.tables.exec = Jvm.exec) (hb : c.code = cc) {f : Fin 4} {lv : List (Nat × Value)} (hdg : decode cc pc = .ok (.astore_n f, 1)) (h : lv_has ls nL lv) (hn : (f : Nat) < nL)
    (kk : ∀ ls' : Array Slot, lv_has ls' nL (((f : Nat), Value.null) :: lv.filter (fun q => !(q.1 == (f : Nat)) && !(q.1 + 1 == (f : Nat) && q.2.category == 2))) → W p l e R s m args below meth c H locs cells slots Qm (F0 m (pc + 1) ls' rest)) : W p l e R s m args below meth c H locs cells slots Qm (F0 m pc ls (.null :: rest)) := by
  obtain ⟨ls', e', h'⟩ := lv_store1 (v := .null) h hn rfl
  intro T hT X
  obtain ⟨t, a, b⟩ := kk ls' h' T hT X
  refine ⟨t, ?_, b⟩
  jvm_step X.here [X.here.top, hexec, hb, hdg, e']
  exact ⟨rfl, a⟩
theorem lv_astN {p : Program} {l : Launch} {e : Env} {R : Room} {s : State} {m : MethodId} {args : Array Value} {below : List Frame} {meth : Method} {c : Code} {H : Heap} {locs : List Loc} {cells slots : Nat} {Qm : State → Prop} {ls : Array Slot} {rest : List Value} (hexec : p.tables.exec = Jvm.exec) (hb : c.code = cc) {f : Nat} {lv : List (Nat × Value)} (hdg : decode cc pc = .ok (.astore f, 2)) (h : lv_has ls nL lv) (hn : f < nL)
    (kk : ∀ ls' : Array Slot, lv_has ls' nL ((f, Value.null) :: lv.filter (fun q => !(q.1 == f) && !(q.1 + 1 == f && q.2.category == 2))) → W p l e R s m args below meth c H locs cells slots Qm (F0 m (pc + 2) ls' rest)) : W p l e R s m args below meth c H locs cells slots Qm (F0 m pc ls (.null :: rest)) := by
  obtain ⟨ls', e', h'⟩ := lv_store1 (v := .null) h hn rfl
  intro T hT X
  obtain ⟨t, a, b⟩ := kk ls' h' T hT X
  refine ⟨t, ?_, b⟩
  jvm_step X.here [X.here.top, hexec, hb, hdg, e']
  exact ⟨rfl, a⟩
theorem ex_astore_n {f : Fin 4} {kd : Nat} {x : Int} {lo' : List (Option zV)} (hd : decode M.2.1 pc = .ok (.astore_n f, 1)) (hq : pc + 1 = q) (hn : (f : Nat) < M.2.2.1) (hg : zNg lo f = true) (hlo : lo.set f (some (vr kd x)) = lo') (k : Ex d M q lo' st h Q) : Ex d M pc lo (vr kd x :: st) h Q := by
  subst hq; subst hlo
  refine ex_go k (fun a b => ⟨a.set b.hd, b.tl⟩) fun p l e R s m args below meth c D G cells slots Qm H ls locs cx hR hL okl oks K => ?_
  have K : ∀ ls', lv_has ls' M.2.2.1 (((f : Nat), cv G h (vr kd x)) :: (lvl G h lo).filter (fun q => !(q.1 == (f : Nat)) && !(q.1 + 1 == (f : Nat) && q.2.category == 2))) → W p l e R s m args below meth c H locs cells slots Qm (F0 m (pc + 1) ls' (st.map (cv G h))) := fun ls' k' => K ls' (hL.set1 (v := vr kd x) hg k')
  have e1 : cv G h (vr kd x) = if x < 0 then Value.null else .ref (ad G h kd x) := rfl
  rw [List.map_cons]
  rw [e1] at K ⊢
  by_cases hx : x < 0
  · rw [if_pos hx] at K ⊢; exact lv_astN_n cx.1 cx.2.1 hd hL.has hn K
  · rw [if_neg hx] at K ⊢; exact lv_astore_n cx.1 cx.2.1 hd rfl hL.has hn rfl K
theorem ex_astore {f : Nat} {kd : Nat} {x : Int} {lo' : List (Option zV)} (hd : decode M.2.1 pc = .ok (.astore f, 2)) (hq : pc + 2 = q) (hn : f < M.2.2.1) (hg : zNg lo f = true) (hlo : lo.set f (some (vr kd x)) = lo') (k : Ex d M q lo' st h Q) : Ex d M pc lo (vr kd x :: st) h Q := by
  subst hq; subst hlo
  refine ex_go k (fun a b => ⟨a.set b.hd, b.tl⟩) fun p l e R s m args below meth c D G cells slots Qm H ls locs cx hR hL okl oks K => ?_
  have K : ∀ ls', lv_has ls' M.2.2.1 ((f, cv G h (vr kd x)) :: (lvl G h lo).filter (fun q => !(q.1 == f) && !(q.1 + 1 == f && q.2.category == 2))) → W p l e R s m args below meth c H locs cells slots Qm (F0 m (pc + 2) ls' (st.map (cv G h))) := fun ls' k' => K ls' (hL.set1 (v := vr kd x) hg k')
  have e1 : cv G h (vr kd x) = if x < 0 then Value.null else .ref (ad G h kd x) := rfl
  rw [List.map_cons]
  rw [e1] at K ⊢
  by_cases hx : x < 0
  · rw [if_pos hx] at K ⊢; exact lv_astN cx.1 cx.2.1 hd hL.has hn K
  · rw [if_neg hx] at K ⊢; exact lv_astore cx.1 cx.2.1 hd hL.has hn rfl K
theorem ex_iinc {i : Nat} {n x : Int} {lo' : List (Option zV)} (hd : decode M.2.1 pc = .ok (.iinc i n, 3)) (hq : pc + 3 = q) (hl : lo[i]? = some (some (vi x))) (hn : i < M.2.2.1) (hg : zNg lo i = true) (hlo : lo.set i (some (vi (wI (x + n)))) = lo') (k : Ex d M q lo' st h Q) : Ex d M pc lo st h Q := by
  subst hq; subst hlo
  refine ex_go k (fun a b => ⟨a.set (wI_rg _), b⟩) fun p l e R s m args below meth c D G cells slots Qm H ls locs cx hR hL okl oks K => ?_
  obtain ⟨j, hj⟩ := List.getElem?_of_mem (lvl_mem (G := G) (h := h) hl)
  exact lv_iinc cx.1 cx.2.1 hd hL.has hj (by rw [ofI_w, Int32.ofInt_add]) hn rfl fun ls' k' => K ls' (hL.set1 (v := vi (wI (x + n))) hg k')
theorem ex_iadd {x y : Int} (hd : decode M.2.1 pc = .ok (.iadd, 1)) (hq : pc + 1 = q) (k : Ex d M q lo (vi (wI (x + y)) :: st) h Q) : Ex d M pc lo (vi y :: vi x :: st) h Q := by
  subst hq
  refine ex_go k (fun a b => ⟨a, okS.cons (wI_rg _) b.tl.tl⟩) fun p l e R s m args below meth c D G cells slots Qm H ls locs cx hR hL okl oks K => lv_iadd cx.1 cx.2.1 hd ?_
  rw [← Int32.ofInt_add, ← ofI_w]; exact K ls hL
theorem ex_isub {x y : Int} (hd : decode M.2.1 pc = .ok (.isub, 1)) (hq : pc + 1 = q) (k : Ex d M q lo (vi (wI (x - y)) :: st) h Q) : Ex d M pc lo (vi y :: vi x :: st) h Q := by
  subst hq
  refine ex_go k (fun a b => ⟨a, okS.cons (wI_rg _) b.tl.tl⟩) fun p l e R s m args below meth c D G cells slots Qm H ls locs cx hR hL okl oks K => lv_isub cx.1 cx.2.1 hd ?_
  rw [← Int32.ofInt_sub, ← ofI_w]; exact K ls hL
theorem ex_imul {x y : Int} (hd : decode M.2.1 pc = .ok (.imul, 1)) (hq : pc + 1 = q) (k : Ex d M q lo (vi (wI (x * y)) :: st) h Q) : Ex d M pc lo (vi y :: vi x :: st) h Q := by
  subst hq
  refine ex_go k (fun a b => ⟨a, okS.cons (wI_rg _) b.tl.tl⟩) fun p l e R s m args below meth c D G cells slots Qm H ls locs cx hR hL okl oks K => lv_imul cx.1 cx.2.1 hd ?_
  rw [← Int32.ofInt_mul, ← ofI_w]; exact K ls hL
theorem ex_iand {x y : Int} (hd : decode M.2.1 pc = .ok (.iand, 1)) (hq : pc + 1 = q) (k : Ex d M q lo (vi (wA x y) :: st) h Q) : Ex d M pc lo (vi y :: vi x :: st) h Q := by
  subst hq
  refine ex_go k (fun a b => ⟨a, okS.cons ⟨Int32.le_toInt _, Int32.toInt_lt _⟩ b.tl.tl⟩) fun p l e R s m args below meth c D G cells slots Qm H ls locs cx hR hL okl oks K => lv_iand cx.1 cx.2.1 hd ?_
  have := K ls hL
  rw [List.map_cons, show cv G h (vi (wA x y)) = .int (Int32.ofInt x &&& Int32.ofInt y) from congrArg Value.int (Int32.ofInt_toInt _)] at this
  exact this
theorem ex_irem {x y : Int} (hd : decode M.2.1 pc = .ok (.irem, 1)) (hq : pc + 1 = q) (hx : 0 ≤ x) (hy : 0 < y) (k : Ex d M q lo (vi (x % y) :: st) h Q) : Ex d M pc lo (vi y :: vi x :: st) h Q := by
  subst hq
  have hrem : okS h (vi y :: vi x :: st) → rgI x ∧ rgI y ∧ rgI (x % y) := fun b => by
    have h1 : rgI y := b.hd
    have h2 : rgI x := b.tl.hd
    have h3 := Int.emod_nonneg x (show y ≠ 0 by omega)
    have h4 := Int.emod_lt_of_pos x hy
    unfold rgI at *
    refine ⟨h2, h1, ?_, ?_⟩ <;> omega
  refine ex_go k (fun a b => ⟨a, okS.cons (hrem b).2.2 b.tl.tl⟩) fun p l e R s m args below meth c D G cells slots Qm H ls locs cx hR hL okl oks K => ?_
  obtain ⟨h2, h1, h3⟩ := hrem oks
  refine lv_irem cx.1 cx.2.1 hd (by rw [ofI_0, ofI_inj h1 rg0]; omega) ?_
  have e1 : Int32.ofInt x - Int32.ofInt x / Int32.ofInt y * Int32.ofInt y = Int32.ofInt (x % y) := by
    have hdiv : (Int32.ofInt x / Int32.ofInt y) = Int32.ofInt (x / y) := by
      apply Int32.toInt_inj.mp
      rw [Int32.toInt_div, ofI_toInt h2, ofI_toInt h1, Int32.toInt_ofInt]
      rw [Int.tdiv_eq_ediv_of_nonneg hx]
    rw [hdiv, ← Int32.ofInt_mul, ← Int32.ofInt_sub]
    congr 1
    have := Int.emod_add_mul_ediv x y
    rw [Int.mul_comm] at this
    omega
  rw [e1]; exact K ls hL
theorem ex_ladd {x y : Int} (hd : decode M.2.1 pc = .ok (.ladd, 1)) (hq : pc + 1 = q) (k : Ex d M q lo (vl (wL (x + y)) :: st) h Q) : Ex d M pc lo (vl y :: vl x :: st) h Q := by
  subst hq
  refine ex_go k (fun a b => ⟨a, okS.cons (wL_rg _) b.tl.tl⟩) fun p l e R s m args below meth c D G cells slots Qm H ls locs cx hR hL okl oks K => lv_ladd cx.1 cx.2.1 hd ?_
  rw [← Int64.ofInt_add, ← ofL_w]; exact K ls hL
theorem ex_i2l {x : Int} (hd : decode M.2.1 pc = .ok (.i2l, 1)) (hq : pc + 1 = q) (k : Ex d M q lo (vl x :: st) h Q) : Ex d M pc lo (vi x :: st) h Q := by
  subst hq
  refine ex_go k (fun a b => ⟨a, okS.cons (show rgL x from (by have := b.hd; have : rgI x := this; unfold rgI at this; unfold rgL; omega)) b.tl⟩) fun p l e R s m args below meth c D G cells slots Qm H ls locs cx hR hL okl oks K => lv_i2l cx.1 cx.2.1 hd ?_ (K ls hL)
  have hr : rgI x := oks.hd
  have hr2 : rgL x := by unfold rgI at hr; unfold rgL; omega
  exact Int64.toInt_inj.mp (by rw [Int32.toInt_toInt64, ofI_toInt hr, ofL_toInt hr2])
theorem ex_lcmp {x y : Int} (hd : decode M.2.1 pc = .ok (.lcmp, 1)) (hq : pc + 1 = q) (k : Ex d M q lo (vi (lc x y) :: st) h Q) : Ex d M pc lo (vl y :: vl x :: st) h Q := by
  subst hq
  refine ex_go k (fun a b => ⟨a, okS.cons (lc_rg _ _) b.tl.tl⟩) fun p l e R s m args below meth c D G cells slots Qm H ls locs cx hR hL okl oks K => W.lcmp cx.1 cx.2.1 hd ?_
  have hy : rgL y := oks.hd
  have hx : rgL x := oks.tl.hd
  have e1 : lg_cmp (Int64.ofInt x) (Int64.ofInt y) = Int32.ofInt (lc x y) := by
    have h1 : (Int64.ofInt x > Int64.ofInt y) ↔ x > y := by
      show (Int64.ofInt y < Int64.ofInt x) ↔ y < x
      rw [Int64.lt_iff_toInt_lt, ofL_toInt hx, ofL_toInt hy]
    have h2 : (Int64.ofInt x = Int64.ofInt y) ↔ x = y := ⟨fun z => by rw [← ofL_toInt hx, z, ofL_toInt hy], fun z => by rw [z]⟩
    unfold lg_cmp lc
    by_cases c1 : x > y
    · rw [if_pos (h1.mpr c1), if_pos c1]; rfl
    · rw [if_neg (fun z => c1 (h1.mp z)), if_neg c1]
      by_cases c2 : x = y
      · rw [if_pos (h2.mpr c2), if_pos c2]; rfl
      · rw [if_neg (fun z => c2 (h2.mp z)), if_neg c2]; rfl
  rw [e1]; exact K ls hL
theorem ex_dup {v : zV} (hd : decode M.2.1 pc = .ok (.dup, 1)) (hq : pc + 1 = q) (hv : ∀ x, v ≠ vl x) (k : Ex d M q lo (v :: v :: st) h Q) : Ex d M pc lo (v :: st) h Q := by
  subst hq
  exact ex_go k (fun a b => ⟨a, okS.cons b.hd b⟩) fun p l e R s m args below meth c D G cells slots Qm H ls locs cx hR hL okl oks K => lv_dup cx.1 cx.2.1 hd (cv_cat1 hv) (K ls hL)
theorem ex_pop {v : zV} (hd : decode M.2.1 pc = .ok (.pop, 1)) (hq : pc + 1 = q) (hv : ∀ x, v ≠ vl x) (k : Ex d M q lo st h Q) : Ex d M pc lo (v :: st) h Q := by
  subst hq
  exact ex_go k (fun a b => ⟨a, b.tl⟩) fun p l e R s m args below meth c D G cells slots Qm H ls locs cx hR hL okl oks K => lv_pop cx.1 cx.2.1 hd (cv_cat1 hv) (K ls hL)
theorem ex_dup2 {v w : zV} (hd : decode M.2.1 pc = .ok (.dup2, 1)) (hq : pc + 1 = q) (hv : ∀ x, v ≠ vl x) (hw : ∀ x, w ≠ vl x) (k : Ex d M q lo (v :: w :: v :: w :: st) h Q) : Ex d M pc lo (v :: w :: st) h Q := by
  subst hq
  exact ex_go k (fun a b => ⟨a, okS.cons b.hd (okS.cons b.tl.hd b)⟩) fun p l e R s m args below meth c D G cells slots Qm H ls locs cx hR hL okl oks K => lv_dup2_11 cx.1 cx.2.1 hd (cv_cat1 hv) (cv_cat1 hw) (K ls hL)
theorem ex_goto {off : Int} (hd : decode M.2.1 pc = .ok (.goto off, 3)) (hq : (pc : Int) + off = (q : Int)) (k : Ex d M q lo st h Q) : Ex d M pc lo st h Q :=
  ex_go k (fun a b => ⟨a, b⟩) fun p l e R s m args below meth c D G cells slots Qm H ls locs cx hR hL okl oks K => lv_goto cx.1 cx.2.1 hd hq (K ls hL)
end ER

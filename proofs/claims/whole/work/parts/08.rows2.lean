/-! ROWS of Ex: branches, the heap, calls -/
section EB
variable {d : Nat} {M : zM} {pc q : Nat} {lo : List (Option zV)} {st : List zV} {h : zH} {Q : zQ}
theorem ex_br {P : Prop} {tgt : Nat} {st0 : List zV} (kt : P → Ex d M tgt lo st h Q) (kf : ¬ P → Ex d M q lo st h Q) (hok : okS h st0 → okS h st)
    (hstep : ∀ (p : Program) (l : Launch) (e : Env) (R : Room) (s : State) (m : MethodId) (args : Array Value) (below : List Frame) (meth : Method) (c : Code) (D : va_G) (G : zG) (cells slots : Nat) (Qm : State → Prop) (H : Heap) (ls : Array Slot) (locs : List Loc),
      zCx d M p R s m args meth c D → okS h st0 →
      (P → W p l e R s m args below meth c H locs cells slots Qm (F0 m tgt ls (st.map (cv G h)))) → (¬ P → W p l e R s m args below meth c H locs cells slots Qm (F0 m q ls (st.map (cv G h)))) →
      W p l e R s m args below meth c H locs cells slots Qm (F0 m pc ls (st0.map (cv G h)))) : Ex d M pc lo st0 h Q := by
  by_cases hP : P
  · exact ex_go (kt hP) (fun a b => ⟨a, hok b⟩) fun p l e R s m args below meth c D G cells slots Qm H ls locs cx hR hL okl oks K => hstep p l e R s m args below meth c D G cells slots Qm H ls locs cx oks (fun _ => K ls hL) (fun z => absurd hP z)
  · exact ex_go (kf hP) (fun a b => ⟨a, hok b⟩) fun p l e R s m args below meth c D G cells slots Qm H ls locs cx hR hL okl oks K => hstep p l e R s m args below meth c D G cells slots Qm H ls locs cx oks (fun z => absurd z hP) (fun _ => K ls hL)
theorem zc_eq {x y : Int} (hx : rgI x) (hy : rgI y) : (Int32.ofInt x = Int32.ofInt y) ↔ (x = y) := ofI_inj hx hy
theorem ex_icmp_eq {x y off : Int} {tgt : Nat} (hd : decode M.2.1 pc = .ok (.if_icmp .eq off, 3)) (hq : pc + 3 = q) (ht : (pc : Int) + off = (tgt : Int)) (kt : x = y → Ex d M tgt lo st h Q) (kf : ¬ (x = y) → Ex d M q lo st h Q) : Ex d M pc lo (vi y :: vi x :: st) h Q := by
  subst hq
  exact ex_br kt kf (fun b => b.tl.tl) fun p l e R s m args below meth c D G cells slots Qm H ls locs cx oks kt kf => lv_icmp_eq cx.1 cx.2.1 hd ht (fun z => kt ((zc_eq oks.tl.hd oks.hd).mp z)) (fun z => kf fun w => z ((zc_eq oks.tl.hd oks.hd).mpr w))
theorem ex_if_eq {x off : Int} {tgt : Nat} (hd : decode M.2.1 pc = .ok (.ifCond .eq off, 3)) (hq : pc + 3 = q) (ht : (pc : Int) + off = (tgt : Int)) (kt : x = 0 → Ex d M tgt lo st h Q) (kf : ¬ (x = 0) → Ex d M q lo st h Q) : Ex d M pc lo (vi x :: st) h Q := by
  subst hq
  exact ex_br kt kf (fun b => b.tl) fun p l e R s m args below meth c D G cells slots Qm H ls locs cx oks kt kf => lv_if_eq cx.1 cx.2.1 hd ht (fun z => kt ((zc_eq (y := 0) oks.hd rg0).mp z)) (fun z => kf fun w => z ((zc_eq (y := 0) oks.hd rg0).mpr w))
theorem zc_ne {x y : Int} (hx : rgI x) (hy : rgI y) : (Int32.ofInt x ≠ Int32.ofInt y) ↔ (x ≠ y) := not_congr (ofI_inj hx hy)
theorem ex_icmp_ne {x y off : Int} {tgt : Nat} (hd : decode M.2.1 pc = .ok (.if_icmp .ne off, 3)) (hq : pc + 3 = q) (ht : (pc : Int) + off = (tgt : Int)) (kt : x ≠ y → Ex d M tgt lo st h Q) (kf : ¬ (x ≠ y) → Ex d M q lo st h Q) : Ex d M pc lo (vi y :: vi x :: st) h Q := by
  subst hq
  exact ex_br kt kf (fun b => b.tl.tl) fun p l e R s m args below meth c D G cells slots Qm H ls locs cx oks kt kf => lv_icmp_ne cx.1 cx.2.1 hd ht (fun z => kt ((zc_ne oks.tl.hd oks.hd).mp z)) (fun z => kf fun w => ((zc_ne oks.tl.hd oks.hd).mpr w) z)
theorem ex_if_ne {x off : Int} {tgt : Nat} (hd : decode M.2.1 pc = .ok (.ifCond .ne off, 3)) (hq : pc + 3 = q) (ht : (pc : Int) + off = (tgt : Int)) (kt : x ≠ 0 → Ex d M tgt lo st h Q) (kf : ¬ (x ≠ 0) → Ex d M q lo st h Q) : Ex d M pc lo (vi x :: st) h Q := by
  subst hq
  exact ex_br kt kf (fun b => b.tl) fun p l e R s m args below meth c D G cells slots Qm H ls locs cx oks kt kf => lv_if_ne cx.1 cx.2.1 hd ht (fun z => kt ((zc_ne (y := 0) oks.hd rg0).mp z)) (fun z => kf fun w => ((zc_ne (y := 0) oks.hd rg0).mpr w) z)
theorem zc_lt {x y : Int} (hx : rgI x) (hy : rgI y) : (Int32.ofInt x < Int32.ofInt y) ↔ (x < y) := ofI_lt hx hy
theorem ex_icmp_lt {x y off : Int} {tgt : Nat} (hd : decode M.2.1 pc = .ok (.if_icmp .lt off, 3)) (hq : pc + 3 = q) (ht : (pc : Int) + off = (tgt : Int)) (kt : x < y → Ex d M tgt lo st h Q) (kf : ¬ (x < y) → Ex d M q lo st h Q) : Ex d M pc lo (vi y :: vi x :: st) h Q := by
  subst hq
  exact ex_br kt kf (fun b => b.tl.tl) fun p l e R s m args below meth c D G cells slots Qm H ls locs cx oks kt kf => lv_icmp_lt cx.1 cx.2.1 hd ht (fun z => kt ((zc_lt oks.tl.hd oks.hd).mp z)) (fun z => kf fun w => z ((zc_lt oks.tl.hd oks.hd).mpr w))
theorem ex_if_lt {x off : Int} {tgt : Nat} (hd : decode M.2.1 pc = .ok (.ifCond .lt off, 3)) (hq : pc + 3 = q) (ht : (pc : Int) + off = (tgt : Int)) (kt : x < 0 → Ex d M tgt lo st h Q) (kf : ¬ (x < 0) → Ex d M q lo st h Q) : Ex d M pc lo (vi x :: st) h Q := by
  subst hq
  exact ex_br kt kf (fun b => b.tl) fun p l e R s m args below meth c D G cells slots Qm H ls locs cx oks kt kf => lv_if_lt cx.1 cx.2.1 hd ht (fun z => kt ((zc_lt (y := 0) oks.hd rg0).mp z)) (fun z => kf fun w => z ((zc_lt (y := 0) oks.hd rg0).mpr w))
theorem zc_ge {x y : Int} (hx : rgI x) (hy : rgI y) : (Int32.ofInt x ≥ Int32.ofInt y) ↔ (y ≤ x) := ofI_le hy hx
theorem ex_icmp_ge {x y off : Int} {tgt : Nat} (hd : decode M.2.1 pc = .ok (.if_icmp .ge off, 3)) (hq : pc + 3 = q) (ht : (pc : Int) + off = (tgt : Int)) (kt : y ≤ x → Ex d M tgt lo st h Q) (kf : ¬ (y ≤ x) → Ex d M q lo st h Q) : Ex d M pc lo (vi y :: vi x :: st) h Q := by
  subst hq
  exact ex_br kt kf (fun b => b.tl.tl) fun p l e R s m args below meth c D G cells slots Qm H ls locs cx oks kt kf => lv_icmp_ge cx.1 cx.2.1 hd ht (fun z => kt ((zc_ge oks.tl.hd oks.hd).mp z)) (fun z => kf fun w => z ((zc_ge oks.tl.hd oks.hd).mpr w))
theorem ex_if_ge {x off : Int} {tgt : Nat} (hd : decode M.2.1 pc = .ok (.ifCond .ge off, 3)) (hq : pc + 3 = q) (ht : (pc : Int) + off = (tgt : Int)) (kt : 0 ≤ x → Ex d M tgt lo st h Q) (kf : ¬ (0 ≤ x) → Ex d M q lo st h Q) : Ex d M pc lo (vi x :: st) h Q := by
  subst hq
  exact ex_br kt kf (fun b => b.tl) fun p l e R s m args below meth c D G cells slots Qm H ls locs cx oks kt kf => lv_if_ge cx.1 cx.2.1 hd ht (fun z => kt ((zc_ge (y := 0) oks.hd rg0).mp z)) (fun z => kf fun w => z ((zc_ge (y := 0) oks.hd rg0).mpr w))
theorem zc_gt {x y : Int} (hx : rgI x) (hy : rgI y) : (Int32.ofInt x > Int32.ofInt y) ↔ (y < x) := ofI_lt hy hx
theorem ex_icmp_gt {x y off : Int} {tgt : Nat} (hd : decode M.2.1 pc = .ok (.if_icmp .gt off, 3)) (hq : pc + 3 = q) (ht : (pc : Int) + off = (tgt : Int)) (kt : y < x → Ex d M tgt lo st h Q) (kf : ¬ (y < x) → Ex d M q lo st h Q) : Ex d M pc lo (vi y :: vi x :: st) h Q := by
  subst hq
  exact ex_br kt kf (fun b => b.tl.tl) fun p l e R s m args below meth c D G cells slots Qm H ls locs cx oks kt kf => lv_icmp_gt cx.1 cx.2.1 hd ht (fun z => kt ((zc_gt oks.tl.hd oks.hd).mp z)) (fun z => kf fun w => z ((zc_gt oks.tl.hd oks.hd).mpr w))
theorem ex_if_gt {x off : Int} {tgt : Nat} (hd : decode M.2.1 pc = .ok (.ifCond .gt off, 3)) (hq : pc + 3 = q) (ht : (pc : Int) + off = (tgt : Int)) (kt : 0 < x → Ex d M tgt lo st h Q) (kf : ¬ (0 < x) → Ex d M q lo st h Q) : Ex d M pc lo (vi x :: st) h Q := by
  subst hq
  exact ex_br kt kf (fun b => b.tl) fun p l e R s m args below meth c D G cells slots Qm H ls locs cx oks kt kf => lv_if_gt cx.1 cx.2.1 hd ht (fun z => kt ((zc_gt (y := 0) oks.hd rg0).mp z)) (fun z => kf fun w => z ((zc_gt (y := 0) oks.hd rg0).mpr w))
theorem zc_le {x y : Int} (hx : rgI x) (hy : rgI y) : (Int32.ofInt x ≤ Int32.ofInt y) ↔ (x ≤ y) := ofI_le hx hy
theorem ex_icmp_le {x y off : Int} {tgt : Nat} (hd : decode M.2.1 pc = .ok (.if_icmp .le off, 3)) (hq : pc + 3 = q) (ht : (pc : Int) + off = (tgt : Int)) (kt : x ≤ y → Ex d M tgt lo st h Q) (kf : ¬ (x ≤ y) → Ex d M q lo st h Q) : Ex d M pc lo (vi y :: vi x :: st) h Q := by
  subst hq
  exact ex_br kt kf (fun b => b.tl.tl) fun p l e R s m args below meth c D G cells slots Qm H ls locs cx oks kt kf => lv_icmp_le cx.1 cx.2.1 hd ht (fun z => kt ((zc_le oks.tl.hd oks.hd).mp z)) (fun z => kf fun w => z ((zc_le oks.tl.hd oks.hd).mpr w))
theorem ex_if_le {x off : Int} {tgt : Nat} (hd : decode M.2.1 pc = .ok (.ifCond .le off, 3)) (hq : pc + 3 = q) (ht : (pc : Int) + off = (tgt : Int)) (kt : x ≤ 0 → Ex d M tgt lo st h Q) (kf : ¬ (x ≤ 0) → Ex d M q lo st h Q) : Ex d M pc lo (vi x :: st) h Q := by
  subst hq
  exact ex_br kt kf (fun b => b.tl) fun p l e R s m args below meth c D G cells slots Qm H ls locs cx oks kt kf => lv_if_le cx.1 cx.2.1 hd ht (fun z => kt ((zc_le (y := 0) oks.hd rg0).mp z)) (fun z => kf fun w => z ((zc_le (y := 0) oks.hd rg0).mpr w))
theorem ex_ifnull {kd : Nat} {x off : Int} {tgt : Nat} (hd : decode M.2.1 pc = .ok (.ifnull off, 3)) (hq : pc + 3 = q) (ht : (pc : Int) + off = (tgt : Int)) (kt : x = -1 → Ex d M tgt lo st h Q) (kf : ¬ x = -1 → Ex d M q lo st h Q) : Ex d M pc lo (vr kd x :: st) h Q := by
  subst hq
  refine ex_br kt kf (fun b => b.tl) fun p l e R s m args below meth c D G cells slots Qm H ls locs cx oks kt kf => ?_
  have hv : x = -1 ∨ (0 ≤ x ∧ x < cn h kd) := oks.hd
  rw [List.map_cons, show cv G h (vr kd x) = if x < 0 then Value.null else .ref (ad G h kd x) from rfl]
  by_cases hx : x = -1
  · rw [if_pos (by omega)]; exact lv_ifnullN cx.1 cx.2.1 hd ht (kt hx)
  · rw [if_neg (by omega)]; exact lv_ifnull cx.1 cx.2.1 hd (kf hx)
theorem ex_ifnonnull {kd : Nat} {x off : Int} {tgt : Nat} (hd : decode M.2.1 pc = .ok (.ifnonnull off, 3)) (hq : pc + 3 = q) (ht : (pc : Int) + off = (tgt : Int)) (kt : x ≠ -1 → Ex d M tgt lo st h Q) (kf : ¬ (x ≠ -1) → Ex d M q lo st h Q) : Ex d M pc lo (vr kd x :: st) h Q := by
  subst hq
  refine ex_br kt kf (fun b => b.tl) fun p l e R s m args below meth c D G cells slots Qm H ls locs cx oks kt kf => ?_
  have hv : x = -1 ∨ (0 ≤ x ∧ x < cn h kd) := oks.hd
  rw [List.map_cons, show cv G h (vr kd x) = if x < 0 then Value.null else .ref (ad G h kd x) from rfl]
  by_cases hx : x = -1
  · rw [if_pos (by omega)]; exact lv_ifnonnullN cx.1 cx.2.1 hd (kf fun z => z hx)
  · rw [if_neg (by omega)]; exact lv_ifnonnull cx.1 cx.2.1 hd ht (kt hx)
theorem ex_tsw (v : Int) {x dflt lw hw off : Int} {offs : Array Int} {len tgt : Nat} (hd : decode M.2.1 pc = .ok (.tableswitch dflt lw hw offs, len)) (hx : x = v) (h1 : ¬ v < lw) (h2 : ¬ hw < v) (ho : offs[(v - lw).toNat]? = some off) (ht : (pc : Int) + off = (tgt : Int)) (k : Ex d M tgt lo st h Q) : Ex d M pc lo (vi x :: st) h Q := by
  subst hx
  refine ex_go k (fun a b => ⟨a, b.tl⟩) fun p l e R s m args below meth c D G cells slots Qm H ls locs cx hR hL okl oks K => ?_
  have hr : (Int32.ofInt x).toInt = x := ofI_toInt oks.hd
  exact lv_tableIn cx.1 cx.2.1 hd (by rw [hr]; exact h1) (by rw [hr]; exact h2) (by rw [hr]; exact ho) ht (K ls hL)
theorem ex_tswD {x dflt lw hw : Int} {offs : Array Int} {len tgt : Nat} (hd : decode M.2.1 pc = .ok (.tableswitch dflt lw hw offs, len)) (hx : x < lw ∨ hw < x) (ht : (pc : Int) + dflt = (tgt : Int)) (k : Ex d M tgt lo st h Q) : Ex d M pc lo (vi x :: st) h Q := by
  refine ex_go k (fun a b => ⟨a, b.tl⟩) fun p l e R s m args below meth c D G cells slots Qm H ls locs cx hR hL okl oks K => ?_
  have hr : (Int32.ofInt x).toInt = x := ofI_toInt oks.hd
  exact lv_tableOut cx.1 cx.2.1 hd (by rw [hr]; exact hx) ht (K ls hL)
theorem ex_lsw (v : Int) {x dflt off : Int} {ps : Array (Int × Int)} {len tgt : Nat} (hd : decode M.2.1 pc = .ok (.lookupswitch dflt ps, len)) (hx : x = v) (hp : (ps.toList.zip (ps.toList.drop 1)).all (fun (a, next) => a.1 < next.1) = true) (ho : Op.lookupswitch.offset ps.toList dflt v = off) (ht : (pc : Int) + off = (tgt : Int)) (k : Ex d M tgt lo st h Q) : Ex d M pc lo (vi x :: st) h Q := by
  subst hx
  refine ex_go k (fun a b => ⟨a, b.tl⟩) fun p l e R s m args below meth c D G cells slots Qm H ls locs cx hR hL okl oks K => ?_
  have hr : (Int32.ofInt x).toInt = x := ofI_toInt oks.hd
  exact lv_lookup cx.1 cx.2.1 hd hp (by rw [hr]; exact ho) ht (K ls hL)
theorem lsw_d {d x : Int} : ∀ {l : List (Int × Int)}, (∀ p ∈ l, p.1 ≠ x) → Op.lookupswitch.offset l d x = d
  | [], _ => rfl
  | (a, o) :: r, h => by
    rw [Op.lookupswitch.offset_cons, if_neg (h _ List.mem_cons_self)]
    exact lsw_d fun p hp => h p (List.mem_cons_of_mem _ hp)
theorem ex_lswD {x dflt : Int} {ps : Array (Int × Int)} {len tgt : Nat} (hd : decode M.2.1 pc = .ok (.lookupswitch dflt ps, len)) (hp : (ps.toList.zip (ps.toList.drop 1)).all (fun (a, next) => a.1 < next.1) = true) (hx : ∀ p ∈ ps.toList, p.1 ≠ x) (ht : (pc : Int) + dflt = (tgt : Int)) (k : Ex d M tgt lo st h Q) : Ex d M pc lo (vi x :: st) h Q := by
  refine ex_go k (fun a b => ⟨a, b.tl⟩) fun p l e R s m args below meth c D G cells slots Qm H ls locs cx hR hL okl oks K => ?_
  have hr : (Int32.ofInt x).toInt = x := ofI_toInt oks.hd
  exact lv_lookup cx.1 cx.2.1 hd hp (by rw [hr]; exact lsw_d hx) ht (K ls hL)
end EB

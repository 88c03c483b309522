/-! ROWS of Ex: calls -/
def zMc (y : MethodName) (bytes : ByteArray) (maxL : Nat) (ret : Option FieldType) (n : Nat) : Prop := Cond.code y bytes maxL ret ∈ zTbl ∧ Cond.initialized y.cls ∈ zTbl ∧ (y.cls ≠ "java/lang/invoke/MethodHandle" ∧ y.cls ≠ "java/lang/invoke/VarHandle" ∧ (parseMethodDescriptor y.desc).map (fun d => d.parameters.length) = some n) ∧ maxL ≤ 21
def zML (own : String) (idx : Nat) (y : MethodName) : Prop := Cond.methodLink own idx y ∈ zTbl ∨ ∃ host, Cond.methodLinkNest own idx y host ∈ lw_tbl
section EC
variable {d d' : Nat} {M : zM} {pc q : Nat} {lo : List (Option zV)} {st : List zV} {h h2 : zH} {Q : zQ} {y : MethodName} {bytes : ByteArray} {maxL n idx : Nat} {ret : Option FieldType} {r : Option zV} {st1 : List zV}
theorem cat_sum {G : zG} {h : zH} : ∀ {st : List zV}, (((st.map (cv G h)).map fun v => v.category).sum) ≤ 2 * st.length
  | [] => Nat.zero_le _
  | v :: t => by
    have ih := cat_sum (G := G) (h := h) (st := t)
    have hv := lv_cat (cv G h v)
    simp only [List.map_cons, List.sum_cons, List.length_cons]
    omega
theorem ex_aft {p : Program} {l : Launch} {e : Env} {R : Room} {s : State} {m : MethodId} {args : Array Value} {below : List Frame} {meth : Method} {c : Code} {H : Heap} {locs : List Loc} {cells slots mc ms : Nat} {Qm : State → Prop} {ls : Array Slot} {st0 rest : List Value} {D : va_G} {G : zG}
    (hr : va_Run p l e R s m args below meth c H locs cells slots mc ms (F0 m pc ls st0) rest (fun _ o t => o = .returned (r.map (cv G h2)) ∧ HR D G t t.heap h2 ∧ ∀ v, r = some v → okV h2 v) (fun q => G.1 ≤ q)) (hlo : ∀ q ∈ locs, G.1 ≤ q.base)
    (kk : ∀ (H' : Heap) (locs' : List Loc), HR D G s H' h2 → (∀ v, r = some v → okV h2 v) → (∀ q ∈ locs', G.1 ≤ q.base) → W p l e R s m args below meth c H' locs' (cells + mc) (slots + ms) Qm (F0 m (pc + 3) ls ((r.map (cv G h2)).toList ++ rest))) : W p l e R s m args below meth c H locs cells slots Qm (F0 m pc ls st0) := by
  intro T hT X
  obtain ⟨v, st₀, t, T', L, h0, X', hL, e1, e2, ⟨hv, hR2, hok⟩, st⟩ := hr T hT X
  cases hv
  have hal : t.vm.Alike s.vm := by rw [← e2]; exact X'.warmed.alike.symm
  obtain ⟨t2, a1, b1⟩ := kk T'.heap (locs ++ L) (by rw [e1]; exact hR2.moved hal) hok (fun q hq => by
      rcases List.mem_append.mp hq with h | h
      · exact hlo q h
      · exact hL q h) T' rfl X'
  exact ⟨t2, st t2 a1, b1⟩
theorem zBlind {D : va_G} {G : zG} {as : List zV} : FrameBlind (fun v U => v = (as.map (cv G h)).toArray ∧ HR D G U U.heap h ∧ va_K D vwCl [] U ∧ zNw U ∧ okS h as) := fun a U g mk q => by
  obtain ⟨q1, q2, q3, q4, q5⟩ := q
  exact ⟨q1, HR.moved (u := U) (U := U.calling g mk a) (Vm.Alike.refl U.vm) q2, va_K.moved (u := U) (U := U.calling g mk a) (Vm.Alike.refl U.vm) q3, zNw.same (u := U) (U := U.calling g mk a) rfl q4, q5⟩
theorem zPre {p : Program} {R : Room} {s : State} {m : MethodId} {args : Array Value} {meth : Method} {c : Code} {D : va_G} {G : zG} {H : Heap} {as : List zV} (cx : zCx d M p R s m args meth c D) (hR : HR D G s H h) (hok : okS h as) : ∀ U : State, U.heap = H → s.WarmedH U.vm → ((as.map (cv G h)).toArray = (as.map (cv G h)).toArray ∧ HR D G U U.heap h ∧ va_K D vwCl [] U ∧ zNw U ∧ okS h as) := fun U hU hW => ⟨rfl, by rw [hU]; exact hR.moved hW.alike, va_K.moved hW.alike cx.2.2.2.2.2.2.2.2.1, zNw.warm hW cx.2.2.2.2.2.2.2.2.2, hok⟩
theorem okS_app {a b : List zV} (k : okS h (a ++ b)) : okS h a ∧ okS h b := ⟨fun v hv => k v (List.mem_append_left _ hv), fun v hv => k v (List.mem_append_right _ hv)⟩
theorem okS_rev {a : List zV} (k : okS h a.reverse) : okS h a := fun v hv => k v (List.mem_reverse.mpr hv)
theorem okS_ret (k : okS h2 st) (hr : ∀ v, r = some v → okV h2 v) : okS h2 (r.toList ++ st) := fun v hv => by
  rcases List.mem_append.mp hv with z | z
  · cases r with
    | none => cases z
    | some w => rw [List.mem_singleton.mp z]; exact hr w rfl
  · exact k v z
theorem map_ret {G : zG} : ((r.map (cv G h2)).toList ++ st.map (cv G h2)) = (r.toList ++ st).map (cv G h2) := by cases r <;> rfl
/-- a call of any kind, by what the kit says of the call -/
theorem ex_callG {as : List zV} {st0 : List zV} (hq : pc + 3 = q) (hM : Run d' y bytes maxL ret as h r h2) (hsub : okS h st0 → okS h as ∧ okS h st)
    (hrun : ∀ (p : Program) (l : Launch) (e : Env) (R : Room) (s : State) (m : MethodId) (args : Array Value) (below : List Frame) (meth : Method) (c : Code) (D : va_G) (G : zG) (cells slots : Nat) (H : Heap) (ls : Array Slot) (locs : List Loc),
      zCx d M p R s m args meth c D → HR D G s H h → ls.size = M.2.2.1 → okS h as → cells + (nn h2 - nn h) ≤ R.cells → slots + (us h2 - us h) ≤ R.slots →
      va_Run p l e R s m args below meth c H locs cells slots (nn h2 - nn h) (us h2 - us h) (F0 m pc ls (st0.map (cv G h))) (st.map (cv G h)) (fun _ o t => o = .returned (r.map (cv G h2)) ∧ HR D G t t.heap h2 ∧ ∀ v, r = some v → okV h2 v) (fun q => G.1 ≤ q))
    (k : Ex d M q lo (r.toList ++ st) h2 Q) : Ex d M pc lo st0 h Q := by
  subst hq
  obtain ⟨⟨rF, hF, hq2, x2⟩, k2⟩ := k
  have x := hM.1
  refine ⟨⟨rF, hF, hq2, x.tr x2⟩, fun p l e R s m args below meth c D G n0 u0 Qm cx room ret hn hu H ls locs hR hL okl oks hlo => ?_⟩
  have r1 := room rF hF hq2
  have x1 := x.1
  have x3 := x.2.1
  have x4 := x2.1
  have x5 := x2.2.1
  refine ex_aft (hrun p l e R s m args below meth c D G (nn h - n0) (us h - u0) H ls locs cx hR hL.1 (hsub oks).1 (by omega) (by omega)) hlo fun H' locs' hR' hrv hlo' => ?_
  have K := k2 p l e R s m args below meth c D G n0 u0 Qm cx room ret (by omega) (by omega) H' ls locs' hR' (hL.xt okl x) (okl.xt x) (okS_ret ((hsub oks).2.xt x) hrv) hlo'
  rw [← map_ret, mapcv_xt (hsub oks).2 x, show nn h2 - n0 = nn h - n0 + (nn h2 - nn h) by omega, show us h2 - u0 = us h - u0 + (us h2 - us h) by omega] at K
  exact K
theorem zWs (hy : zMc y bytes maxL ret n) : GoodIn zTbl (Cond.code y bytes maxL ret :: zTbl) := zTbl_g hy.1
theorem zCB {p : Program} {R : Room} {s : State} {m : MethodId} {args : Array Value} {meth : Method} {c : Code} {D : va_G} (cx : zCx d M p R s m args meth c D) (hy : zMc y bytes maxL ret n) (hdd : d' + 1 ≤ d) (hl : Cond.methodLink M.1 idx y ∈ zTbl) {rm : Room} (hf : rm.frames = d') (hlc : rm.locals = 40 * d') : CallB R s args M.1 idx y bytes maxL ret (Cond.code y bytes maxL ret :: zTbl) rm rm.cells rm.slots n := by
  have h1 := cx.2.2.2.2.2.2.1
  have h2 := cx.2.2.2.2.2.2.2.1
  have h3 := hy.2.2.2
  exact callB_of n cx.2.2.2.2.1 (zWs hy) rfl rfl rfl (cx.2.2.2.2.1 _ hy.2.1) (cx.2.2.2.2.1 _ hl) hy.2.2.1 ⟨by omega, by omega⟩
theorem zCN {p : Program} {R : Room} {s : State} {m : MethodId} {args : Array Value} {meth : Method} {c : Code} {D : va_G} {host : String} (cx : zCx d M p R s m args meth c D) (hy : zMc y bytes maxL ret n) (hdd : d' + 1 ≤ d) (hl : Cond.methodLinkNest M.1 idx y host ∈ lw_tbl) {rm : Room} (hf : rm.frames = d') (hlc : rm.locals = 40 * d') : va_CN R s args M.1 idx y host bytes maxL ret (Cond.code y bytes maxL ret :: zTbl) rm rm.cells rm.slots n := by
  have h1 := cx.2.2.2.2.2.2.1
  have h2 := cx.2.2.2.2.2.2.2.1
  have h3 := hy.2.2.2
  exact va_cnB n cx.2.2.2.2.1 (zWs hy) rfl rfl rfl (cx.2.2.2.2.2.2.2.2.2.1 _ hl rfl) (cx.2.2.2.2.1 _ hy.2.1) hy.2.2.1 ⟨by omega, by omega⟩
theorem st_rev {G : zG} {as rest : List zV} : (as.reverse ++ rest).map (cv G h) = (as.map (cv G h)).reverse ++ rest.map (cv G h) := by rw [List.map_append, List.map_reverse]
/-- invokevirtual -/
theorem ex_callV {c : Nat} {i : Int} {as : List zV} {st0 : List zV} (hd : decode M.2.1 pc = .ok (.invokevirtual idx, 3)) (hq : pc + 3 = q) (hM : Run d' y bytes maxL ret (vr c i :: as) h r h2) (hy : zMc y bytes maxL ret n) (hv : c < 13 ∧ y.cls = zRX c ∧ Cond.instanceMethod y ∈ zTbl ∧ Cond.selects y.cls y y ∈ zTbl) (hl : zML M.1 idx y) (hdd : d' + 1 ≤ d) (hi : 0 ≤ i) (hn : as.length = n) (hst : st0 = as.reverse ++ vr c i :: st) (hw : st.length ≤ 4) (hs1 : r.toList ++ st = st1) (k : Ex d M q lo st1 h2 Q) : Ex d M pc lo st0 h Q := by
  subst hst; subst hs1
  refine ex_callG hq hM (fun b => ⟨okS.cons (okS_app b).2.hd (okS_rev (okS_app b).1), (okS_app b).2.tl⟩) (fun p l e R s m args below meth cd D G cells slots H ls locs cx hR hls hok rc rs => ?_) k
  have hM2 := hM.2 l D G
  obtain ⟨hc, hyc, hv1, hv2⟩ := hv
  obtain ⟨b1, b2, b3, ⟨cellB, g1, g2, g3, -⟩, b5, b6⟩ := hR.obj hc hok.hd hi
  have hcls := (cx.2.2.2.2.2.2.2.2.1.1 c _ (zcl hc)).2
  have hp : PreV s H y.cls (ad G h c i) (fun v U => v = ((vr c i :: as).map (cv G h)).toArray ∧ HR D G U U.heap h ∧ va_K D vwCl [] U ∧ zNw U ∧ okS h (vr c i :: as)) (as.map (cv G h)) := by
    refine ⟨zBlind, ⟨cellB, g1, by rw [g3]; rfl, by rw [hyc, g2]; exact hcls.1⟩, fun U hU hW => ?_⟩
    have := zPre cx hR hok U hU hW
    refine ⟨?_, this.2⟩
    rw [List.map_cons, b6]
  have hw2 : 2 * (F0 m pc ls ((as.reverse ++ vr c i :: st).map (cv G h))).monitorRoom + ((st.map (cv G h)).map fun v => v.category).sum ≤ 8 := lv_room (rest := (as.reverse ++ vr c i :: st).map (cv G h)) (Nat.le_trans cat_sum (by omega))
  have hs0 : (F0 m pc ls ((as.reverse ++ vr c i :: st).map (cv G h))).stack = (as.map (cv G h)).reverse ++ .ref (ad G h c i) :: st.map (cv G h) := by
    show (as.reverse ++ vr c i :: st).map (cv G h) = _
    rw [st_rev, List.map_cons, b6]
  have hS : CallFix p m cd M.2.1 M.2.2.1 s args zTbl M.1 := ⟨cx.1, cx.2.1, cx.2.2.1, cx.2.2.2.1, cx.2.2.2.2.1⟩
  rcases hl with hl | ⟨host, hl⟩
  · exact va_runV hS hM2 ⟨zCB cx hy hdd hl rfl rfl, cx.2.2.2.2.1 _ hv1, cx.2.2.2.2.1 _ hv2⟩ hp rfl (by rw [List.length_map]; exact hn) hls hs0 hw2 hd ⟨rc, rs⟩
  · exact va_runVN hS hM2 ⟨zCN cx hy hdd hl rfl rfl, cx.2.2.2.2.1 _ hv1, cx.2.2.2.2.1 _ hv2⟩ hp rfl (by rw [List.length_map]; exact hn) hls hs0 hw2 hd ⟨rc, rs⟩
/-- invokestatic -/
theorem ex_callS {as : List zV} {st0 : List zV} (hd : decode M.2.1 pc = .ok (.invokestatic idx, 3)) (hq : pc + 3 = q) (hM : Run d' y bytes maxL ret as h r h2) (hy : zMc y bytes maxL ret n) (hv : Cond.static y ∈ zTbl) (hl : zML M.1 idx y) (hdd : d' + 1 ≤ d) (hn : as.length = n) (hst : st0 = as.reverse ++ st) (hw : st.length ≤ 4) (hs1 : r.toList ++ st = st1) (k : Ex d M q lo st1 h2 Q) : Ex d M pc lo st0 h Q := by
  subst hst; subst hs1
  refine ex_callG hq hM (fun b => ⟨okS_rev (okS_app b).1, (okS_app b).2⟩) (fun p l e R s m args below meth cd D G cells slots H ls locs cx hR hls hok rc rs => ?_) k
  have hM2 := hM.2 l D G
  have hp : PreS s H (fun v U => v = (as.map (cv G h)).toArray ∧ HR D G U U.heap h ∧ va_K D vwCl [] U ∧ zNw U ∧ okS h as) (as.map (cv G h)) := ⟨zBlind, fun U hU hW => zPre cx hR hok U hU hW⟩
  have hw2 : 2 * (F0 m pc ls ((as.reverse ++ st).map (cv G h))).monitorRoom + ((st.map (cv G h)).map fun v => v.category).sum ≤ 8 := lv_room (rest := (as.reverse ++ st).map (cv G h)) (Nat.le_trans cat_sum (by omega))
  have hs0 : (F0 m pc ls ((as.reverse ++ st).map (cv G h))).stack = (as.map (cv G h)).reverse ++ st.map (cv G h) := st_rev
  have hS : CallFix p m cd M.2.1 M.2.2.1 s args zTbl M.1 := ⟨cx.1, cx.2.1, cx.2.2.1, cx.2.2.2.1, cx.2.2.2.2.1⟩
  rcases hl with hl | ⟨host, hl⟩
  · exact va_runS hS hM2 ⟨zCB cx hy hdd hl rfl rfl, cx.2.2.2.2.1 _ hv⟩ hp rfl (by rw [List.length_map]; exact hn) hls hs0 hw2 hd ⟨rc, rs⟩
  · exact va_runSN hS hM2 ⟨zCN cx hy hdd hl rfl rfl, cx.2.2.2.2.1 _ hv, trivial⟩ hp rfl (by rw [List.length_map]; exact hn) hls hs0 hw2 hd ⟨rc, rs⟩
/-- invokespecial of a constructor -/
theorem ex_callI {c : Nat} {i : Int} {as : List zV} {st0 : List zV} (hd : decode M.2.1 pc = .ok (.invokespecial idx, 3)) (hq : pc + 3 = q) (hM : Run d' y bytes maxL none (vr c i :: as) h r h2) (hy : zMc y bytes maxL none n) (hv : y.name = "<init>" ∧ Cond.instanceMethod y ∈ zTbl) (hl : zML M.1 idx y) (hdd : d' + 1 ≤ d) (hc : c < 13) (hi : 0 ≤ i) (hn : as.length = n) (hst : st0 = as.reverse ++ vr c i :: st) (hw : st.length ≤ 4) (hs1 : r.toList ++ st = st1) (k : Ex d M q lo st1 h2 Q) : Ex d M pc lo st0 h Q := by
  subst hst; subst hs1
  refine ex_callG hq hM (fun b => ⟨okS.cons (okS_app b).2.hd (okS_rev (okS_app b).1), (okS_app b).2.tl⟩) (fun p l e R s m args below meth cd D G cells slots H ls locs cx hR hls hok rc rs => ?_) k
  have hM2 := hM.2 l D G
  obtain ⟨b1, b2, b3, -, b5, b6⟩ := hR.obj hc hok.hd hi
  have hp : PreS s H (fun v U => v = ((vr c i :: as).map (cv G h)).toArray ∧ HR D G U U.heap h ∧ va_K D vwCl [] U ∧ zNw U ∧ okS h (vr c i :: as)) (.ref (ad G h c i) :: as.map (cv G h)) := by
    refine ⟨zBlind, fun U hU hW => ?_⟩
    have := zPre cx hR hok U hU hW
    refine ⟨?_, this.2⟩
    rw [List.map_cons, b6]
  have hw2 : 2 * (F0 m pc ls ((as.reverse ++ vr c i :: st).map (cv G h))).monitorRoom + ((st.map (cv G h)).map fun v => v.category).sum ≤ 8 := lv_room (rest := (as.reverse ++ vr c i :: st).map (cv G h)) (Nat.le_trans cat_sum (by omega))
  have hs0 : (F0 m pc ls ((as.reverse ++ vr c i :: st).map (cv G h))).stack = (as.map (cv G h)).reverse ++ .ref (ad G h c i) :: st.map (cv G h) := by
    show (as.reverse ++ vr c i :: st).map (cv G h) = _
    rw [st_rev, List.map_cons, b6]
  have hS : CallFix p m cd M.2.1 M.2.2.1 s args zTbl M.1 := ⟨cx.1, cx.2.1, cx.2.2.1, cx.2.2.2.1, cx.2.2.2.2.1⟩
  rcases hl with hl | ⟨host, hl⟩
  · exact va_runI hS hM2 ⟨zCB cx hy hdd hl rfl rfl, hv.1, cx.2.2.2.2.1 _ hv.2⟩ hp rfl (by rw [List.length_map]; exact hn) hls hs0 hw2 hd ⟨rc, rs⟩
  · exact va_runIN hS hM2 ⟨zCN cx hy hdd hl rfl rfl, hv.1, cx.2.2.2.2.1 _ hv.2⟩ hp rfl (by rw [List.length_map]; exact hn) hls hs0 hw2 hd ⟨rc, rs⟩
/-- invokespecial of Object's constructor -/
theorem ex_obj {c : Nat} {i : Int} (hd : decode M.2.1 pc = .ok (.invokespecial idx, 3)) (hq : pc + 3 = q) (hc : c < 13) (hi : 0 ≤ i) (hdd : 1 ≤ d) (w1 : Cond.methodLink M.1 idx Lib.objectInit ∈ zTbl) (w2 : Cond.instanceMethod Lib.objectInit ∈ zTbl) (w3 : Cond.code Lib.objectInit ⟨#[0xb1]⟩ 1 none ∈ zTbl) (hw : st.length ≤ 4) (k : Ex d M q lo st h Q) : Ex d M pc lo (vr c i :: st) h Q := by
  subst hq
  refine ex_go k (fun a b => ⟨a, b.tl⟩) fun p l e R s m args below meth cd D G cells slots Qm H ls locs cx hR hL okl oks K => ?_
  obtain ⟨b1, b2, b3, -, b5, b6⟩ := hR.obj hc oks.hd hi
  rw [List.map_cons, b6]
  have h1 := cx.2.2.2.2.2.2.1
  have h2 := cx.2.2.2.2.2.2.2.1
  have hs := cat_sum (G := G) (h := h) (st := st)
  refine W.objInit cx.1 cx.2.1 cx.2.2.2.1 (cx.2.2.2.2.1 _ w1) (cx.2.2.2.2.1 _ w2) (cx.2.2.2.2.1 _ w3) rfl (hL.1.trans cx.2.2.1.symm) rfl hd (by omega) ?_ (K ls hL)
  show 2 * 0 + _ + 12 ≤ _
  omega
end EC
theorem ip {α : Type} {P : Prop} [Decidable P] {a b y : α} (hc : P) (h : (if P then a else b) = y) : a = y := by rw [if_pos hc] at h; exact h
theorem im {α : Type} {P : Prop} [Decidable P] {a b y : α} (hc : ¬ P) (h : (if P then a else b) = y) : b = y := by rw [if_neg hc] at h; exact h
/-- what a method's functional program answers -/
abbrev zO : Type := Option (Int × zH)
theorem zg {P : Prop} [Decidable P] {o : zO} {y : Int × zH} (h : (if P then o else none) = some y) : P ∧ o = some y := by
  by_cases hc : P
  · rw [if_pos hc] at h; exact ⟨hc, h⟩
  · rw [if_neg hc] at h; cases h
def zb (o : zO) (k : Int → zH → zO) : zO := match o with
  | none => none
  | some q => k q.1 q.2
theorem zb_some {o : zO} {k : Int → zH → zO} {y : Int × zH} (h : zb o k = some y) : ∃ r h1, o = some (r, h1) ∧ k r h1 = some y := by
  cases o with
  | none => cases h
  | some q => exact ⟨q.1, q.2, rfl, h⟩
theorem zr {x r : Int} {a b : zH} (h : some (x, a) = some (r, b)) : x = r ∧ a = b := by cases h; exact ⟨rfl, rfl⟩
def zF : Nat := 4000000
def zl (x : zH) (k : zH → zO) : zO := k x
theorem zl_e {x : zH} {k : zH → zO} {y : zO} (h : zl x k = y) : k x = y := h
theorem ex_mmin {d : Nat} {M : zM} {pc q : Nat} {lo : List (Option zV)} {st : List zV} {h : zH} {Q : zQ} {idx : Nat} {x y : Int} (hd : decode M.2.1 pc = .ok (.invokestatic idx, 3)) (hq : pc + 3 = q) (hdd : 1 ≤ d) (w1 : Cond.methodLink M.1 idx Lib.Math.min.name ∈ zTbl) (w2 : Cond.static Lib.Math.min.name ∈ zTbl) (w3 : Cond.initialized "java/lang/Math" ∈ zTbl) (w4 : Cond.code Lib.Math.min.name Lib.Math.min.code 2 (some .int) ∈ zTbl) (hw : st.length ≤ 4) (k : Ex d M q lo (vi (if y < x then y else x) :: st) h Q) : Ex d M pc lo (vi y :: vi x :: st) h Q := by
  subst hq
  refine ⟨k.1, fun p l e R s m args below meth cd D G n0 u0 Qm cx room ret hn hu H ls locs hR hL okl oks hlo => ?_⟩
  have hy : rgI y := oks.hd
  have hx : rgI x := oks.tl.hd
  have h1 := cx.2.2.2.2.2.2.1
  have h2 := cx.2.2.2.2.2.2.2.1
  have hs := cat_sum (G := G) (h := h) (st := st)
  obtain ⟨rF, hF, hq2, x2⟩ := k.1
  have r1 := room rF hF hq2
  have x4 := x2.1
  have x5 := x2.2.1
  have e1 : (if Int32.ofInt y < Int32.ofInt x then Int32.ofInt y else Int32.ofInt x) = Int32.ofInt (if y < x then y else x) := by
    by_cases c : y < x
    · rw [if_pos ((ofI_lt hy hx).mpr c), if_pos c]
    · rw [if_neg (fun z => c ((ofI_lt hy hx).mp z)), if_neg c]
  have hr : rgI (if y < x then y else x) := by split <;> assumption
  have K := k.2 p l e R s m args below meth cd D G n0 u0 Qm cx room ret hn hu H ls locs hR hL okl (okS.cons hr oks.tl.tl) hlo
  refine va_mmin cx.1 cx.2.1 (cx.2.2.1.trans hL.1.symm) cx.2.2.2.1 (cx.2.2.2.2.1 _ w1) (cx.2.2.2.2.1 _ w2) (cx.2.2.2.2.1 _ w3) (cx.2.2.2.2.1 _ w4) (by omega) (by omega) (by omega) (by omega) hd ?_
  rw [e1]
  exact K

/-! THE JUDGEMENT Ex: from a frame over our heap picture, the method comes to a return that Q takes. -/
def zTbl : List Cond := lw_tbl.filter goodWord
theorem zTbl_in {w : Cond} (h : w ∈ lw_tbl) (g : goodWord w = true) : w ∈ zTbl := List.mem_filter.mpr ⟨h, g⟩
theorem zTbl_i (i : Nat) {w : Cond} (h : lw_tbl[i]? = some w) (g : goodWord w = true) : w ∈ zTbl := zTbl_in (List.mem_of_getElem? h) g
theorem zTbl_g {y : Cond} (hy : y ∈ zTbl) : GoodIn zTbl (y :: zTbl) := fun w hw => by
  rcases List.mem_cons.mp hw with rfl | hw
  · exact ⟨hy, good_of_word (List.mem_filter.mp hy).2⟩
  · exact ⟨hw, good_of_word (List.mem_filter.mp hw).2⟩
def zNest : Cond → Bool
  | .fieldLinkNest .. => true
  | .methodLinkNest .. => true
  | _ => false
/-- the words that a callee gets beside those of the tables: nest mates' links, arrays' classes -/
def zNw (U : State) : Prop := (∀ w ∈ lw_tbl, zNest w = true → va_Nw w U) ∧ ∀ C : String, Cond.arrayOver (.object C) ∈ lw_tbl → va_AO C U
theorem zNw.warm {s U : State} (hW : s.WarmedH U.vm) (h : zNw s) : zNw U := by
  refine ⟨fun w hw hn => ?_, fun C hC => (h.2 C hC).moved hW.alike⟩
  cases w <;> first | exact va_Nw.warmF hW (h.1 _ hw hn) | exact va_Nw.warmM hW (h.1 _ hw hn) | exact absurd hn (by simp [zNest])
theorem zNw.same {u U : State} (hv : u.vm = U.vm) (h : zNw u) : zNw U := by
  refine ⟨fun w hw hn => ?_, fun C hC => (h.2 C hC).moved (by rw [hv]; exact Vm.Alike.refl U.vm)⟩
  have := h.1 w hw hn
  cases w <;> first | exact va_Nw.same rfl hv this | exact absurd hn (by simp [zNest])
abbrev zM : Type := String × (ByteArray × (Nat × (Option FieldType × Bool)))
def LR (ls : Array Slot) (nL : Nat) (G : zG) (h : zH) (lo : List (Option zV)) : Prop := ls.size = nL ∧ lv_wf ls ∧ lo.length = nL ∧ ∀ (i : Nat) (v : zV), lo[i]? = some (some v) → ls[i]? = some (.val (cv G h v))
def okL (h : zH) (lo : List (Option zV)) : Prop := ∀ (i : Nat) (v : zV), lo[i]? = some (some v) → okV h v
def okS (h : zH) (st : List zV) : Prop := ∀ v ∈ st, okV h v
def lvl (G : zG) (h : zH) (lo : List (Option zV)) : List (Nat × Value) := (List.range lo.length).filterMap fun i => (lo[i]?.getD none).map fun v => (i, cv G h v)
theorem lvl_mem {G : zG} {h : zH} {lo : List (Option zV)} {i : Nat} {v : zV} (hi : lo[i]? = some (some v)) : (i, cv G h v) ∈ lvl G h lo :=
  List.mem_filterMap.mpr ⟨i, List.mem_range.mpr (List.getElem?_eq_some_iff.mp hi).1, by rw [hi]; rfl⟩
theorem lvl_of {G : zG} {h : zH} {lo : List (Option zV)} {q : Nat × Value} (hq : q ∈ lvl G h lo) : ∃ v, lo[q.1]? = some (some v) ∧ q.2 = cv G h v := by
  obtain ⟨i, -, hi⟩ := List.mem_filterMap.mp hq
  cases hl : lo[i]? with
  | none => rw [hl] at hi; cases hi
  | some o =>
    rw [hl] at hi
    cases o with
    | none => cases hi
    | some v => cases hi; exact ⟨v, hl, rfl⟩
theorem LR.has {ls : Array Slot} {nL : Nat} {G : zG} {h : zH} {lo : List (Option zV)} (k : LR ls nL G h lo) : lv_has ls nL (lvl G h lo) := by
  refine ⟨k.1, k.2.1, fun q hq => ?_⟩
  obtain ⟨v, h1, h2⟩ := lvl_of hq
  rw [h2]; exact k.2.2.2 _ v h1
def zNg (lo : List (Option zV)) (i : Nat) : Bool := match i with
  | 0 => true
  | k + 1 => match lo[k]? with
    | some (some (Sum.inr (Sum.inl _))) => false
    | _ => true
theorem cv_cat1 {G : zG} {h : zH} {v : zV} (hv : ∀ x, v ≠ vl x) : (cv G h v).category = 1 := by
  match v with
  | Sum.inl _ => rfl
  | Sum.inr (Sum.inl x) => exact absurd rfl (hv x)
  | Sum.inr (Sum.inr q) =>
    show (if q.2 < 0 then Value.null else .ref (ad G h q.1 q.2)).category = 1
    by_cases hq : q.2 < 0
    · rw [if_pos hq]; rfl
    · rw [if_neg hq]; rfl
theorem zNg_cat {G : zG} {h : zH} {lo : List (Option zV)} {i j : Nat} {v : zV} (hn : zNg lo i = true) (hj : j + 1 = i) (hv : lo[j]? = some (some v)) : ¬ (cv G h v).category = 2 := by
  subst hj
  have hn : (match lo[j]? with | some (some (Sum.inr (Sum.inl _))) => false | _ => true) = true := hn
  rw [hv] at hn
  match v, hn with
  | Sum.inl z, _ => rw [show (cv G h (Sum.inl z)).category = 1 from rfl]; decide
  | Sum.inr (Sum.inl _), hn => cases hn
  | Sum.inr (Sum.inr q), _ =>
    rw [cv_cat1 (by intro x hx; cases hx)]; decide
theorem LR.set1 {ls ls' : Array Slot} {nL : Nat} {G : zG} {h : zH} {lo : List (Option zV)} {i : Nat} {v : zV} (k : LR ls nL G h lo) (hn : zNg lo i = true) (k' : lv_has ls' nL ((i, cv G h v) :: (lvl G h lo).filter (fun q => !(q.1 == i) && !(q.1 + 1 == i && q.2.category == 2)))) : LR ls' nL G h (lo.set i (some v)) := by
  refine ⟨k'.1, k'.2.1, by rw [List.length_set]; exact k.2.2.1, fun j w hj => ?_⟩
  by_cases hij : i = j
  · subst hij
    rw [List.getElem?_set_self' ] at hj
    cases hl : lo[i]? with
    | none => rw [hl] at hj; cases hj
    | some o =>
      rw [hl] at hj
      cases hj
      exact k'.2.2 (i, cv G h v) List.mem_cons_self
  · rw [List.getElem?_set_ne hij] at hj
    refine k'.2.2 (j, cv G h w) (List.mem_cons_of_mem _ (List.mem_filter.mpr ⟨lvl_mem hj, ?_⟩))
    have h1 : (j == i) = false := by simp; exact fun q => hij q.symm
    have h2 : (j + 1 == i && (cv G h w).category == 2) = false := by
      by_cases hji : j + 1 = i
      · have := zNg_cat (G := G) (h := h) hn hji hj
        simp [this]
      · simp [hji]
    simp only [h1, h2]; rfl
theorem LR.set2 {ls ls' : Array Slot} {nL : Nat} {G : zG} {h : zH} {lo : List (Option zV)} {i : Nat} {v : zV} (k : LR ls nL G h lo) (hn : zNg lo i = true) (k' : lv_has ls' nL ((i, cv G h v) :: (lvl G h lo).filter (fun q => !(q.1 == i) && (!(q.1 == i + 1) && !(q.1 + 1 == i && q.2.category == 2))))) : LR ls' nL G h ((lo.set i (some v)).set (i + 1) none) := by
  refine ⟨k'.1, k'.2.1, by rw [List.length_set, List.length_set]; exact k.2.2.1, fun j w hj => ?_⟩
  by_cases hj1 : i + 1 = j
  · subst hj1
    rw [List.getElem?_set_self'] at hj
    cases hl : (lo.set i (some v))[i + 1]? with
    | none => rw [hl] at hj; cases hj
    | some o => rw [hl] at hj; cases hj
  · rw [List.getElem?_set_ne hj1] at hj
    by_cases hij : i = j
    · subst hij
      rw [List.getElem?_set_self'] at hj
      cases hl : lo[i]? with
      | none => rw [hl] at hj; cases hj
      | some o =>
        rw [hl] at hj
        cases hj
        exact k'.2.2 (i, cv G h v) List.mem_cons_self
    · rw [List.getElem?_set_ne hij] at hj
      refine k'.2.2 (j, cv G h w) (List.mem_cons_of_mem _ (List.mem_filter.mpr ⟨lvl_mem hj, ?_⟩))
      have h1 : (j == i) = false := by simp; exact fun q => hij q.symm
      have h3 : (j == i + 1) = false := by simp; exact fun q => hj1 q.symm
      have h2 : (j + 1 == i && (cv G h w).category == 2) = false := by
        by_cases hji : j + 1 = i
        · have := zNg_cat (G := G) (h := h) hn hji hj
          simp [this]
        · simp [hji]
      simp only [h1, h2, h3]; rfl
theorem LR.xt {ls : Array Slot} {nL : Nat} {G : zG} {h h' : zH} {lo : List (Option zV)} (k : LR ls nL G h lo) (ho : okL h lo) (x : zXt h h') : LR ls nL G h' lo := ⟨k.1, k.2.1, k.2.2.1, fun i v hi => by rw [cv_xt x (ho i v hi)]; exact k.2.2.2 i v hi⟩
theorem okL.xt {h h' : zH} {lo : List (Option zV)} (ho : okL h lo) (x : zXt h h') : okL h' lo := fun i v hi => (ho i v hi).xt x
theorem okS.xt {h h' : zH} {st : List zV} (ho : okS h st) (x : zXt h h') : okS h' st := fun v hv => (ho v hv).xt x
theorem mapcv_xt {G : zG} {h h' : zH} {st : List zV} (ho : okS h st) (x : zXt h h') : st.map (cv G h') = st.map (cv G h) := List.map_congr_left fun v hv => cv_xt x (ho v hv)
theorem okS.cons {h : zH} {v : zV} {st : List zV} (a : okV h v) (b : okS h st) : okS h (v :: st) := fun w hw => by
  rcases List.mem_cons.mp hw with rfl | hw
  · exact a
  · exact b w hw
theorem okS.hd {h : zH} {v : zV} {st : List zV} (b : okS h (v :: st)) : okV h v := b v List.mem_cons_self
theorem okS.tl {h : zH} {v : zV} {st : List zV} (b : okS h (v :: st)) : okS h st := fun w hw => b w (List.mem_cons_of_mem _ hw)
theorem okL.set {h : zH} {v : zV} {lo : List (Option zV)} {i : Nat} (a : okV h v) (b : okL h lo) : okL h (lo.set i (some v)) := fun j w hj => by
  by_cases hij : i = j
  · subst hij
    rw [List.getElem?_set_self'] at hj
    cases hl : lo[i]? with
    | none => rw [hl] at hj; cases hj
    | some o => rw [hl] at hj; cases hj; exact a
  · rw [List.getElem?_set_ne hij] at hj
    exact b j w hj
theorem okL.setN {h : zH} {lo : List (Option zV)} {i : Nat} (b : okL h lo) : okL h (lo.set i none) := fun j w hj => by
  by_cases hij : i = j
  · subst hij
    rw [List.getElem?_set_self'] at hj
    cases hl : lo[i]? with
    | none => rw [hl] at hj; cases hj
    | some o => rw [hl] at hj; cases hj
  · rw [List.getElem?_set_ne hij] at hj
    exact b j w hj
def zCx (d : Nat) (M : zM) (p : Program) (R : Room) (s : State) (m : MethodId) (args : Array Value) (meth : Method) (c : Code) (D : va_G) : Prop :=
  p.tables.exec = Jvm.exec ∧ c.code = M.2.1 ∧ c.maxLocals = M.2.2.1 ∧ s.vm.findClass M.1 = some m.cls ∧ (∀ w ∈ zTbl, w.before args s = true) ∧ (M.2.2.2.2 = true → meth.name = "<init>") ∧ d ≤ R.frames ∧ 40 * d ≤ R.locals ∧ va_K D vwCl [] s ∧ zNw s
def zRt (M : zM) (pc : Nat) : Option zV → Prop
  | none => decode M.2.1 pc = .ok (.return_, 1) ∧ M.2.2.2.1 = none
  | some (Sum.inl x) => decode M.2.1 pc = .ok (.ireturn, 1) ∧ (M.2.2.2.1 = some .int ∨ (M.2.2.2.1 = some .boolean ∧ (x = 0 ∨ x = 1)))
  | some (Sum.inr (Sum.inl _)) => decode M.2.1 pc = .ok (.lreturn, 1) ∧ M.2.2.2.1 = some .long
  | some (Sum.inr (Sum.inr _)) => decode M.2.1 pc = .ok (.areturn, 1) ∧ ∃ n, M.2.2.2.1 = some (.object n)
abbrev zQ : Type := Option zV → zH → Prop
def Ex (d : Nat) (M : zM) (pc : Nat) (lo : List (Option zV)) (st : List zV) (h : zH) (Q : zQ) : Prop :=
  (∃ r hF, Q r hF ∧ zXt h hF) ∧
  ∀ (p : Program) (l : Launch) (e : Env) (R : Room) (s : State) (m : MethodId) (args : Array Value) (below : List Frame) (meth : Method) (c : Code) (D : va_G) (G : zG) (n0 u0 : Nat) (Qm : State → Prop),
    zCx d M p R s m args meth c D →
    (∀ r hF, Q r hF → nn hF ≤ n0 + R.cells ∧ us hF ≤ u0 + R.slots) →
    (∀ (r : Option zV) (hF : zH) (H : Heap) (ls : Array Slot) (locs : List Loc) (pc' : Nat), Q r hF → HR D G s H hF → (∀ v, r = some v → okV hF v) → zRt M pc' r → (∀ q ∈ locs, G.1 ≤ q.base) →
      W p l e R s m args below meth c H locs (nn hF - n0) (us hF - u0) Qm (F0 m pc' ls ((r.map (cv G hF)).toList))) →
    n0 ≤ nn h → u0 ≤ us h →
    ∀ (H : Heap) (ls : Array Slot) (locs : List Loc), HR D G s H h → LR ls M.2.2.1 G h lo → okL h lo → okS h st → (∀ q ∈ locs, G.1 ≤ q.base) →
    W p l e R s m args below meth c H locs (nn h - n0) (us h - u0) Qm (F0 m pc ls (st.map (cv G h)))
/-- a step that leaves the heap -/
theorem ex_go {d : Nat} {M : zM} {pc pc' : Nat} {lo lo' : List (Option zV)} {st st' : List zV} {h : zH} {Q : zQ} (k : Ex d M pc' lo' st' h Q) (hok : okL h lo → okS h st → okL h lo' ∧ okS h st')
    (hstep : ∀ (p : Program) (l : Launch) (e : Env) (R : Room) (s : State) (m : MethodId) (args : Array Value) (below : List Frame) (meth : Method) (c : Code) (D : va_G) (G : zG) (cells slots : Nat) (Qm : State → Prop) (H : Heap) (ls : Array Slot) (locs : List Loc),
      zCx d M p R s m args meth c D → HR D G s H h → LR ls M.2.2.1 G h lo → okL h lo → okS h st →
      (∀ ls' : Array Slot, LR ls' M.2.2.1 G h lo' → W p l e R s m args below meth c H locs cells slots Qm (F0 m pc' ls' (st'.map (cv G h)))) →
      W p l e R s m args below meth c H locs cells slots Qm (F0 m pc ls (st.map (cv G h)))) : Ex d M pc lo st h Q :=
  ⟨k.1, fun p l e R s m args below meth c D G n0 u0 Qm cx room ret hn hu H ls locs hR hL okl oks hlo =>
    hstep p l e R s m args below meth c D G _ _ Qm H ls locs cx hR hL okl oks fun ls' hL' => k.2 p l e R s m args below meth c D G n0 u0 Qm cx room ret hn hu H ls' locs hR hL' (hok okl oks).1 (hok okl oks).2 hlo⟩
/-- locals that are not needed any more -/
def zLe : List (Option zV) → List (Option zV) → Prop
  | [], [] => True
  | a :: l, b :: l' => (a = none ∨ a = b) ∧ zLe l l'
  | _, _ => False
theorem zLe.get : ∀ {l l' : List (Option zV)}, zLe l l' → l.length = l'.length ∧ ∀ (i : Nat) (v : zV), l[i]? = some (some v) → l'[i]? = some (some v)
  | [], [], _ => ⟨rfl, fun i v h => by simp at h⟩
  | a :: l, b :: l', h => by
    obtain ⟨h1, h2⟩ := h
    obtain ⟨e, k⟩ := zLe.get h2
    refine ⟨by simp [e], fun i v hv => ?_⟩
    cases i with
    | zero =>
      rw [List.getElem?_cons_zero] at hv ⊢
      rcases h1 with rfl | rfl
      · cases hv
      · exact hv
    | succ i =>
      rw [List.getElem?_cons_succ] at hv ⊢
      exact k i v hv
theorem ex_forget {d : Nat} {M : zM} {pc : Nat} {lo lo' : List (Option zV)} {st : List zV} {h : zH} {Q : zQ} (hle : zLe lo' lo) (k : Ex d M pc lo' st h Q) : Ex d M pc lo st h Q :=
  ex_go k (fun a b => ⟨fun i v hv => a i v (hle.get.2 i v hv), b⟩) fun p l e R s m args below meth c D G cells slots Qm H ls locs cx hR hL okl oks K => K ls ⟨hL.1, hL.2.1, hle.get.1.trans hL.2.2.1, fun i v hv => hL.2.2.2 i v (hle.get.2 i v hv)⟩
theorem ex_q {d : Nat} {M : zM} {pc : Nat} {lo : List (Option zV)} {st : List zV} {h : zH} {Q Q' : zQ} (k : Ex d M pc lo st h Q) (hq : ∀ r hF, Q r hF → Q' r hF) : Ex d M pc lo st h Q' := by
  obtain ⟨⟨r, hF, a, b⟩, k⟩ := k
  exact ⟨⟨r, hF, hq _ _ a, b⟩, fun p l e R s m args below meth c D G n0 u0 Qm cx room ret => k p l e R s m args below meth c D G n0 u0 Qm cx (fun r hF z => room r hF (hq _ _ z)) fun r hF H ls locs pc' z => ret r hF H ls locs pc' (hq _ _ z)⟩
/-- the return -/
theorem ex_ret {d : Nat} {M : zM} {pc : Nat} {lo : List (Option zV)} {st : List zV} {h : zH} {Q : zQ} (r : Option zV) (hs : st = r.toList) (ht : zRt M pc r) (hq : Q r h) : Ex d M pc lo st h Q := by
  refine ⟨⟨r, h, hq, zXt.rf h⟩, fun p l e R s m args below meth c D G n0 u0 Qm cx room ret hn hu H ls locs hR hL okl oks hlo => ?_⟩
  have := ret r h H ls locs pc hq hR (fun v hv => oks v (by rw [hs, hv]; exact List.mem_cons_self)) ht hlo
  subst hs
  cases r with
  | none => exact this
  | some v => exact this
/-- a method by its bytes: what a call gets -/
def Run (d : Nat) (y : MethodName) (cc : ByteArray) (nL : Nat) (ret : Option FieldType) (a : List zV) (h : zH) (r : Option zV) (h' : zH) : Prop :=
  zXt h h' ∧ ∀ (l : Launch) (D : va_G) (G : zG), Met l y (Cond.code y cc nL ret :: zTbl) ({ frames := d, cells := nn h' - nn h, slots := us h' - us h, locals := 40 * d } : Room)
    (fun v U => v = (a.map (cv G h)).toArray ∧ HR D G U U.heap h ∧ va_K D vwCl [] U ∧ zNw U ∧ okS h a)
    (fun _ _ o t => o = .returned (r.map (cv G h')) ∧ HR D G t t.heap h' ∧ ∀ v, r = some v → okV h' v) (nn h' - nn h) (us h' - us h) (fun q => G.1 ≤ q)
def zEnt : List zV → List (Option zV)
  | [] => []
  | v :: t => match v with
    | Sum.inr (Sum.inl x) => some (vl x) :: none :: zEnt t
    | w => some w :: zEnt t
theorem zEnt_1 {G : zG} {h : zH} {w v : zV} {t : List zV} {k i : Nat} (hc : (cv G h w).category = 1) (ih : ∀ (k i : Nat) (v : zV), (zEnt t)[i]? = some (some v) → (k + i, cv G h v) ∈ lv_args k (t.map (cv G h))) (hv : (some w :: zEnt t)[i]? = some (some v)) : (k + i, cv G h v) ∈ lv_args k ((w :: t).map (cv G h)) := by
  show (k + i, cv G h v) ∈ (k, cv G h w) :: lv_args (if (cv G h w).category = 2 then k + 2 else k + 1) (t.map (cv G h))
  rw [hc, if_neg (by decide)]
  cases i with
  | zero => cases hv; exact List.mem_cons_self
  | succ i =>
    rw [List.getElem?_cons_succ] at hv
    have := ih (k + 1) i v hv
    rw [show k + (i + 1) = k + 1 + i by omega]
    exact List.mem_cons_of_mem _ this
theorem zEnt_args {G : zG} {h : zH} : ∀ (a : List zV) (k i : Nat) (v : zV), (zEnt a)[i]? = some (some v) → (k + i, cv G h v) ∈ lv_args k (a.map (cv G h))
  | [], _, i, _, hv => by simp [zEnt] at hv
  | Sum.inl x :: t, k, i, v, hv => zEnt_1 rfl (zEnt_args t) hv
  | Sum.inr (Sum.inl x) :: t, k, i, v, hv => by
    show (k + i, cv G h v) ∈ (k, cv G h (vl x)) :: lv_args (if (cv G h (vl x)).category = 2 then k + 2 else k + 1) (t.map (cv G h))
    rw [if_pos (show (cv G h (vl x)).category = 2 from rfl)]
    have hv : (some (vl x) :: none :: zEnt t)[i]? = some (some v) := hv
    match i, hv with
    | 0, hv => cases hv; exact List.mem_cons_self
    | 1, hv => cases hv
    | i + 2, hv =>
      rw [List.getElem?_cons_succ, List.getElem?_cons_succ] at hv
      have := zEnt_args (G := G) (h := h) t (k + 2) i v hv
      rw [show k + (i + 2) = k + 2 + i by omega]
      exact List.mem_cons_of_mem _ this
  | Sum.inr (Sum.inr q) :: t, k, i, v, hv => zEnt_1 (cv_cat1 (by intro x hx; cases hx)) (zEnt_args t) hv
/-- the entry's locals -/
def zEn (a : List zV) (nL : Nat) : List (Option zV) := zEnt a ++ List.replicate (nL - (zEnt a).length) none
theorem zEnt_len {G : zG} {h : zH} : ∀ a : List zV, (lg_sl (a.map (cv G h))).length = (zEnt a).length
  | [] => rfl
  | Sum.inl x :: t => by
    show ((if (cv G h (vi x)).category = 2 then [Slot.val (cv G h (vi x)), Slot.second] else [Slot.val (cv G h (vi x))]) ++ lg_sl (t.map (cv G h))).length = (some (vi x) :: zEnt t).length
    rw [if_neg (by rw [show (cv G h (vi x)).category = 1 from rfl]; decide), List.length_append, zEnt_len t]; simp; omega
  | Sum.inr (Sum.inl x) :: t => by
    show ((if (cv G h (vl x)).category = 2 then [Slot.val (cv G h (vl x)), Slot.second] else [Slot.val (cv G h (vl x))]) ++ lg_sl (t.map (cv G h))).length = (some (vl x) :: none :: zEnt t).length
    rw [if_pos (show (cv G h (vl x)).category = 2 from rfl), List.length_append, zEnt_len t]; simp; omega
  | Sum.inr (Sum.inr q) :: t => by
    show ((if (cv G h (Sum.inr (Sum.inr q))).category = 2 then [Slot.val (cv G h (Sum.inr (Sum.inr q))), Slot.second] else [Slot.val (cv G h (Sum.inr (Sum.inr q)))]) ++ lg_sl (t.map (cv G h))).length = (some (Sum.inr (Sum.inr q)) :: zEnt t).length
    rw [if_neg (by rw [cv_cat1 (by intro x hx; cases hx)]; decide), List.length_append, zEnt_len t]; simp; omega
theorem zEn_ok {h : zH} : ∀ {a : List zV}, okS h a → ∀ (i : Nat) (v : zV), (zEnt a)[i]? = some (some v) → okV h v
  | [], _, i, v, hv => by simp [zEnt] at hv
  | Sum.inl x :: t, k, i, v, hv => by
    have hv : (some (vi x) :: zEnt t)[i]? = some (some v) := hv
    cases i with
    | zero => cases hv; exact k.hd
    | succ i => rw [List.getElem?_cons_succ] at hv; exact zEn_ok k.tl i v hv
  | Sum.inr (Sum.inl x) :: t, k, i, v, hv => by
    have hv : (some (vl x) :: none :: zEnt t)[i]? = some (some v) := hv
    match i, hv with
    | 0, hv => cases hv; exact k.hd
    | 1, hv => cases hv
    | i + 2, hv => rw [List.getElem?_cons_succ, List.getElem?_cons_succ] at hv; exact zEn_ok k.tl i v hv
  | Sum.inr (Sum.inr q) :: t, k, i, v, hv => by
    have hv : (some (Sum.inr (Sum.inr q)) :: zEnt t)[i]? = some (some v) := hv
    cases i with
    | zero => cases hv; exact k.hd
    | succ i => rw [List.getElem?_cons_succ] at hv; exact zEn_ok k.tl i v hv
theorem zEn_get {a : List zV} {nL i : Nat} {v : zV} (hv : (zEn a nL)[i]? = some (some v)) : (zEnt a)[i]? = some (some v) := by
  unfold zEn at hv
  by_cases hi : i < (zEnt a).length
  · rw [List.getElem?_append_left hi] at hv; exact hv
  · rw [List.getElem?_append_right (by omega)] at hv
    have := List.mem_of_getElem? hv
    have := List.eq_of_mem_replicate this
    cases this
/-- a method's contract out of its walk -/
theorem run_of {d : Nat} {y : MethodName} {M : zM} {a : List zV} {h : zH} {r : Option zV} {h' : zH} (hy : plainName y.cls = true) (hM : M.1 = y.cls) (hI : M.2.2.2.2 = true → y.name = "<init>") (hl : (zEnt a).length ≤ M.2.2.1) (k : Ex d M 0 (zEn a M.2.2.1) [] h (fun r' h2 => r' = r ∧ h2 = h')) : Run d y M.2.1 M.2.2.1 M.2.2.2.1 a h r h' := by
  obtain ⟨⟨r1, h1, ⟨e1, e2⟩, x⟩, k⟩ := k
  rw [e2] at x
  refine ⟨x, fun l D G => ?_⟩
  refine Met.ofW (cc := M.2.1) (maxL := M.2.2.1) (ret := M.2.2.2.1) hy rfl ?_
  intro p e s m args below meth c s₁ B hml hv
  obtain ⟨rfl, hR, hK, hN, hok⟩ := hv
  have hx := B.exec
  have hb := B.bytes
  have hr := B.returns
  have hts := atoms_spec (ws := Cond.code y M.2.1 M.2.2.1 M.2.2.2.1 :: zTbl) B.pre
  have hown : s.vm.findClass M.1 = some m.cls := by rw [hM]; exact findClass_of_methodNamed B.named
  have hlocks := B.notSynchronized
  have hin : meth.name = y.name := (name_of_methodNamed B.named B.method).1
  have hlv := lv_entry (a.map (cv G h)) (n := M.2.2.1) (by rw [zEnt_len]; exact hl)
  rw [lg_entry_eq]
  have K := k p l e (headSpec (Cond.code y M.2.1 M.2.2.1 M.2.2.2.1 :: zTbl) ({ frames := d, cells := nn h' - nn h, slots := us h' - us h, locals := 40 * d } : Room)).room s m (a.map (cv G h)).toArray below meth c D G (nn h) (us h)
    (MQ below (fun _ _ o t => o = .returned (r.map (cv G h')) ∧ HR D G t t.heap h' ∧ ∀ v, r = some v → okV h' v) (a.map (cv G h)).toArray s (nn h' - nn h) (us h' - us h) (fun q => G.1 ≤ q))
    ⟨hx, hb, hml, hown, fun w hw => hts w (List.mem_cons_of_mem _ hw), fun q => hin.trans (hI q), Nat.le_refl _, Nat.le_refl _, hK, hN⟩
    (fun r2 hF q => by
      obtain ⟨rfl, rfl⟩ := q
      have := x.1
      have := x.2.1
      exact ⟨by show nn hF ≤ nn h + (nn hF - nn h); omega, by show us hF ≤ us h + (us hF - us h); omega⟩)
    (fun r2 hF H ls locs pc' q hR' hv' ht hlo => by
      obtain ⟨rfl, rfl⟩ := q
      have hq : ∀ t : State, t.heap = H → s.WarmedH t.vm → (Outcome.returned (r2.map (cv G hF)) = .returned (r2.map (cv G hF)) ∧ HR D G t t.heap hF ∧ ∀ v, r2 = some v → okV hF v) := fun t ht2 hW => ⟨rfl, by rw [ht2]; exact hR'.moved hW.alike, hv'⟩
      match r2, ht, hq with
      | none, ht, hq => exact W.vret hx hb (hr.trans ht.2) hq hlo ht.1
      | some (Sum.inl x), ht, hq =>
        obtain ⟨ht, h2 | ⟨h2, h3⟩⟩ := ht
        · exact W.iret hx hb (hr.trans h2) hq hlo ht
        · refine W.zret hx hb (hr.trans h2) ?_ hq hlo ht
          rcases h3 with rfl | rfl <;> rfl
      | some (Sum.inr (Sum.inl x)), ht, hq => exact W.lret hx hb (hr.trans ht.2) hq hlo ht.1
      | some (Sum.inr (Sum.inr x)), ht, hq =>
        obtain ⟨ht, n, h2⟩ := ht
        refine W.aret hx hb (hr.trans h2) (Or.inl ⟨n, rfl⟩) ?_ hq hlo ht
        show (if x.2 < 0 then Value.null else .ref (ad G hF x.1 x.2)) = .null ∨ ∃ a, (if x.2 < 0 then Value.null else .ref (ad G hF x.1 x.2)) = .ref a
        by_cases hx2 : x.2 < 0
        · rw [if_pos hx2]; exact Or.inl rfl
        · rw [if_neg hx2]; exact Or.inr ⟨_, rfl⟩)
    (Nat.le_refl _) (Nat.le_refl _) s.heap _ [] hR ⟨hlv.1, hlv.2.1, by unfold zEn; simp; omega, fun i v hv => hlv.2.2 (i, cv G h v) (by have := zEnt_args (G := G) (h := h) a 0 i v (zEn_get hv); rwa [Nat.zero_add] at this)⟩ (fun i v hv => zEn_ok hok i v (zEn_get hv)) (fun v hv => by cases hv) (fun q hq => by cases hq)
  rw [Nat.sub_self, Nat.sub_self] at K
  exact K

/-! OUR PICTURE OF THE HEAP: kinds, numbers, slots; values are Ints. Our own definitions over the kit's machine. -/
abbrev zV : Type := Int ⊕ (Int ⊕ (Nat × Int))
abbrev zH : Type := (Nat → Int) × ((Nat → Int → Int → Int) × ((Nat → Int → Nat) × (Nat × Nat)))
abbrev zG : Type := Nat × (Nat → Nat × Nat)
abbrev vi (x : Int) : zV := Sum.inl x
abbrev vl (x : Int) : zV := Sum.inr (Sum.inl x)
abbrev vr (k : Nat) (x : Int) : zV := Sum.inr (Sum.inr (k, x))
def cn (h : zH) (c : Nat) : Int := h.1 c
def gt (h : zH) (c : Nat) (i j : Int) : Int := h.2.1 c i j
def ps (h : zH) (c : Nat) (i : Int) : Nat := h.2.2.1 c i
def nn (h : zH) : Nat := h.2.2.2.1
def us (h : zH) : Nat := h.2.2.2.2
def pt (h : zH) (c : Nat) (i j v : Int) : zH := (h.1, (fun c' i' j' => if c' = c ∧ i' = i ∧ j' = j then v else h.2.1 c' i' j', h.2.2))
def zsT (c j : Nat) : Nat := if c < 20 then zT c j else zE c
def zdf (c : Nat) (j : Int) : Int := if zsT c j.toNat < 10 then 0 else -1
def nw (h : zH) (c sz : Nat) : zH :=
  (fun c' => if c' = c then h.1 c + 1 else h.1 c', (fun c' i' j' => if c' = c ∧ i' = h.1 c then zdf c j' else h.2.1 c' i' j', (fun c' i' => if c' = c ∧ i' = h.1 c then h.2.2.2.1 else h.2.2.1 c' i', (h.2.2.2.1 + 1, h.2.2.2.2 + sz))))
def ad (G : zG) (h : zH) (c : Nat) (i : Int) : Nat := if c < 100 then G.1 + ps h c i else (G.2 c).1
def zsN (c : Nat) : Nat := if c < 20 then zN c else zL c
def mk (t : Nat) (x : Int) : zV := if t = 1 then vl x else if t < 10 then vi x else vr (t - 10) x
def cv (G : zG) (h : zH) : zV → Value
  | Sum.inl x => .int (Int32.ofInt x)
  | Sum.inr (Sum.inl x) => .long (Int64.ofInt x)
  | Sum.inr (Sum.inr q) => if q.2 < 0 then .null else .ref (ad G h q.1 q.2)
def rgI (x : Int) : Prop := -2147483648 ≤ x ∧ x < 2147483648
def rgL (x : Int) : Prop := -9223372036854775808 ≤ x ∧ x < 9223372036854775808
def okT (h : zH) (t : Nat) (x : Int) : Prop := (t = 0 → rgI x) ∧ (t = 1 → rgL x) ∧ (t = 2 → x = 0 ∨ x = 1) ∧ (3 ≤ t → t < 10 → False) ∧ (10 ≤ t → x = -1 ∨ (0 ≤ x ∧ x < cn h (t - 10)))
def okV (h : zH) : zV → Prop
  | Sum.inl x => rgI x
  | Sum.inr (Sum.inl x) => rgL x
  | Sum.inr (Sum.inr q) => q.2 = -1 ∨ (0 ≤ q.2 ∧ q.2 < cn h q.1)
theorem okV_mk {h : zH} {t : Nat} {x : Int} (k : okT h t x) : okV h (mk t x) := by
  obtain ⟨k0, k1, k2, k3, k4⟩ := k
  unfold mk
  by_cases h1 : t = 1
  · rw [if_pos h1]; exact k1 h1
  · rw [if_neg h1]
    by_cases h2 : t < 10
    · rw [if_pos h2]
      show rgI x
      by_cases h3 : 3 ≤ t
      · exact (k3 h3 h2).elim
      · rcases (show t = 0 ∨ t = 2 by omega) with rfl | rfl
        · exact k0 rfl
        · rcases k2 rfl with rfl | rfl <;> exact ⟨by decide, by decide⟩
    · rw [if_neg h2]
      exact k4 (by omega)
def zAr (U : State) (ty : FieldType) (cA : ClassId) : Prop := ArrOfT U cA ty ∧ va_RA U cA ty
def zCell (D : va_G) (G : zG) (U : State) (H : Heap) (h : zH) (c : Nat) (i : Int) : Prop :=
  (c < 20 → c < 13 ∧ t_OB (ad G h c i) (D.1 c) (zN c) (D.2 c) H (fun j => cv G h (mk (zT c j) (gt h c i j)))) ∧
  (20 ≤ c → ∃ cA, H[ad G h c i]? = some (arrV cA (zL c) (fun j => cv G h (mk (zE c) (gt h c i j)))) ∧ zAr U (zft (zE c)) cA)
def zsn (c : Nat) : String := if c = 100 then "LARGEST_A" else if c = 101 then "LARGEST_B" else "KIND_ABOVE"
def zSt (G : zG) (U : State) (H : Heap) (h : zH) (c : Nat) : Prop :=
  cn h c = 1 ∧ (G.2 c).1 < G.1 ∧ ((G.2 c).2 < 2147483648 ∧ gt h c 0 (-1) = ((G.2 c).2 : Int)) ∧ (∃ cell : Cell, H[(G.2 c).1]? = some cell ∧ U.isArrayOf cell .int ∧ cell.vm ≠ .unknown ∧ (G.2 c).2 ≤ cell.slots.size ∧ cell.slots.size.toInt32 = Int32.ofNat (G.2 c).2 ∧ ∀ j : Nat, j < (G.2 c).2 → cell.slots[j]? = some (.int (Int32.ofInt (gt h c 0 j)))) ∧ ∀ j : Nat, j < (G.2 c).2 → rgI (gt h c 0 j)
def HR (D : va_G) (G : zG) (U : State) (H : Heap) (h : zH) : Prop :=
  H.size = G.1 + nn h ∧ (∀ c, 0 ≤ cn h c) ∧
  (∀ (c : Nat) (i : Int), c < 100 → 0 ≤ i → i < cn h c → ps h c i < nn h ∧ zCell D G U H h c i ∧ ∀ j : Nat, j < zsN c → okT h (zsT c j) (gt h c i j)) ∧
  (∀ (c : Nat) (i : Int) (c' : Nat) (i' : Int), c < 100 → c' < 100 → 0 ≤ i → i < cn h c → 0 ≤ i' → i' < cn h c' → ps h c i = ps h c' i' → c = c' ∧ i = i') ∧
  (∀ c : Nat, 100 ≤ c → c < 104 → zSt G U H h c) ∧
  (∀ c : Nat, 100 ≤ c → c < 103 → va_Z "HireScopes" (zsn c) "[I" (.ref (G.2 c).1) (fun q => G.1 ≤ q) U H)
theorem zAr.moved {u U : State} (hvm : u.vm.Alike U.vm) {ty : FieldType} {cA : ClassId} (h : zAr u ty cA) : zAr U ty cA := ⟨arrOfT_moved hvm h.1, h.2.moved hvm⟩
theorem HR.moved {D : va_G} {G : zG} {u U : State} {H : Heap} {h : zH} (hvm : u.vm.Alike U.vm) (k : HR D G u H h) : HR D G U H h := by
  obtain ⟨k1, k2, k3, k4, k5, k6⟩ := k
  refine ⟨k1, k2, fun c i hc h0 h1 => ?_, k4, fun c h0 h1 => ?_, fun c h0 h1 => (k6 c h0 h1).moved hvm⟩
  · obtain ⟨a, b, d⟩ := k3 c i hc h0 h1
    refine ⟨a, ⟨b.1, fun hh => ?_⟩, d⟩
    obtain ⟨cA, e1, e2⟩ := b.2 hh
    exact ⟨cA, e1, e2.moved hvm⟩
  · obtain ⟨a, b, b2, ⟨cell, e1, e2, e3⟩, d⟩ := k5 c h0 h1
    exact ⟨a, b, b2, ⟨cell, e1, State.isArrayOf_alike hvm e2, e3⟩, d⟩
/-- what comes later: nothing that was made goes, or moves -/
def zXt (h h' : zH) : Prop := nn h ≤ nn h' ∧ us h ≤ us h' ∧ ∀ (c : Nat) (i : Int), 0 ≤ i → i < cn h c → i < cn h' c ∧ ps h' c i = ps h c i
theorem zXt.rf (h : zH) : zXt h h := ⟨Nat.le_refl _, Nat.le_refl _, fun _ _ _ k => ⟨k, rfl⟩⟩
theorem zXt.tr {a b c : zH} (h : zXt a b) (k : zXt b c) : zXt a c := ⟨Nat.le_trans h.1 k.1, Nat.le_trans h.2.1 k.2.1, fun x i h0 h1 => by
  obtain ⟨h2, h3⟩ := h.2.2 x i h0 h1
  obtain ⟨h4, h5⟩ := k.2.2 x i h0 h2
  exact ⟨h4, h5.trans h3⟩⟩
theorem zXt.pt {h : zH} {c : Nat} {i j v : Int} : zXt h (pt h c i j v) := ⟨Nat.le_refl _, Nat.le_refl _, fun _ _ _ k => ⟨k, rfl⟩⟩
theorem zXt.nw {h : zH} {c sz : Nat} : zXt h (nw h c sz) := by
  refine ⟨Nat.le_succ _, Nat.le_add_right _ _, fun x i h0 h1 => ?_⟩
  by_cases hx : x = c
  · subst hx
    refine ⟨?_, ?_⟩
    · show i < (if x = x then h.1 x + 1 else h.1 x)
      rw [if_pos rfl]
      have : i < h.1 x := h1
      omega
    · show (if x = x ∧ i = h.1 x then h.2.2.2.1 else h.2.2.1 x i) = h.2.2.1 x i
      rw [if_neg]
      intro q
      have : i < h.1 x := h1
      omega
  · refine ⟨?_, ?_⟩
    · show i < (if x = c then h.1 c + 1 else h.1 x)
      rw [if_neg hx]; exact h1
    · show (if x = c ∧ i = h.1 c then h.2.2.2.1 else h.2.2.1 x i) = h.2.2.1 x i
      rw [if_neg fun q => hx q.1]
theorem okV.xt {h h' : zH} (x : zXt h h') {v : zV} (k : okV h v) : okV h' v := by
  match v, k with
  | Sum.inl _, k => exact k
  | Sum.inr (Sum.inl _), k => exact k
  | Sum.inr (Sum.inr q), k =>
    rcases k with k | k
    · exact Or.inl k
    · exact Or.inr ⟨k.1, (x.2.2 q.1 q.2 k.1 k.2).1⟩
theorem cv_xt {G : zG} {h h' : zH} (x : zXt h h') {v : zV} (k : okV h v) : cv G h' v = cv G h v := by
  match v, k with
  | Sum.inl _, k => rfl
  | Sum.inr (Sum.inl _), k => rfl
  | Sum.inr (Sum.inr q), k =>
    show (if q.2 < 0 then Value.null else .ref (ad G h' q.1 q.2)) = (if q.2 < 0 then Value.null else .ref (ad G h q.1 q.2))
    rcases k with k | k
    · rw [if_pos (by omega), if_pos (by omega)]
    · unfold ad
      rw [(x.2.2 q.1 q.2 k.1 k.2).2]
theorem okT.xt {h h' : zH} (x : zXt h h') {t : Nat} {v : Int} (k : okT h t v) : okT h' t v := by
  obtain ⟨k0, k1, k2, k3, k4⟩ := k
  refine ⟨k0, k1, k2, k3, fun q => ?_⟩
  rcases k4 q with k | k
  · exact Or.inl k
  · exact Or.inr ⟨k.1, (x.2.2 _ _ k.1 k.2).1⟩
theorem gt_pt (h : zH) (c : Nat) (i j v : Int) (c' : Nat) (i' j' : Int) : gt (pt h c i j v) c' i' j' = if c' = c ∧ i' = i ∧ j' = j then v else gt h c' i' j' := rfl
theorem gt_nw (h : zH) (c sz : Nat) (c' : Nat) (i' j' : Int) : gt (nw h c sz) c' i' j' = if c' = c ∧ i' = cn h c then zdf c j' else gt h c' i' j' := rfl
theorem cn_pt (h : zH) (c : Nat) (i j v : Int) (c' : Nat) : cn (pt h c i j v) c' = cn h c' := rfl
theorem cn_nw (h : zH) (c sz c' : Nat) : cn (nw h c sz) c' = if c' = c then cn h c + 1 else cn h c' := rfl
theorem arrV_congr {cA : ClassId} {N : Nat} {f g : Nat → Value} (h : ∀ j, j < N → f j = g j) : arrV cA N f = arrV cA N g := by
  unfold arrV
  have : (fun j : Fin N => f j.val) = fun j : Fin N => g j.val := funext fun j => h j.val j.isLt
  rw [this]
/-- one slot is written -/
theorem HR.put {D : va_G} {G : zG} {U : State} {H H' : Heap} {h : zH} (k : HR D G U H h) {c : Nat} {i j x : Int} (hc : c < 100) (h0 : 0 ≤ i) (h1 : i < cn h c) (hx : ∀ j' : Nat, j = j' → j' < zsN c → okT h (zsT c j') x) (hsz : H'.size = H.size) (ho : ∀ q, q ≠ ad G h c i → H'[q]? = H[q]?) (hcell : zCell D G U H' (pt h c i j x) c i) : HR D G U H' (pt h c i j x) := by
  obtain ⟨k1, k2, k3, k4, k5, k6⟩ := k
  have hlow : ∀ q : Nat, q < G.1 → H'[q]? = H[q]? := fun q hq => ho q (by unfold ad; rw [if_pos hc]; omega)
  refine ⟨hsz.trans k1, k2, fun c' i' hc' h0' h1' => ?_, k4, fun c' a b => ?_, fun c' a b => (k6 c' a b).kept fun q _ hq => hlow q (by omega)⟩
  · obtain ⟨a, b, d⟩ := k3 c' i' hc' h0' h1'
    by_cases he : c' = c ∧ i' = i
    · obtain ⟨rfl, rfl⟩ := he
      refine ⟨a, hcell, fun j' hj' => ?_⟩
      rw [gt_pt]
      by_cases hjj : c' = c' ∧ i' = i' ∧ (j' : Int) = j
      · rw [if_pos hjj]; exact hx j' hjj.2.2.symm hj'
      · rw [if_neg hjj]; exact d j' hj'
    · have hne : ad G h c' i' ≠ ad G h c i := by
        unfold ad
        rw [if_pos hc, if_pos hc']
        intro q
        have hq : ps h c' i' = ps h c i := by omega
        exact he (k4 c' i' c i hc' hc h0' h1' h0 h1 hq)
      have hg : ∀ j' : Int, gt (pt h c i j x) c' i' j' = gt h c' i' j' := fun j' => by rw [gt_pt, if_neg]; exact fun q => he ⟨q.1, q.2.1⟩
      refine ⟨a, ⟨fun hh => ?_, fun hh => ?_⟩, fun j' hj' => by rw [hg]; exact d j' hj'⟩
      · obtain ⟨b1, b2⟩ := b.1 hh
        refine ⟨b1, (b2.kept (ho _ hne)).to fun z _ => ?_⟩
        rw [hg]; rfl
      · obtain ⟨cA, b1, b2⟩ := b.2 hh
        refine ⟨cA, ?_, b2⟩
        show H'[ad G h c' i']? = _
        rw [ho _ hne, b1]
        exact congrArg some (arrV_congr fun z _ => by rw [hg]; rfl)
  · obtain ⟨a1, a2, a3, ⟨cell, e1, e2, e3, e4, e5, e6⟩, a5⟩ := k5 c' a b
    have hg : ∀ j' : Int, gt (pt h c i j x) c' 0 j' = gt h c' 0 j' := fun j' => by rw [gt_pt, if_neg]; exact fun q => by omega
    exact ⟨a1, a2, ⟨a3.1, by rw [hg]; exact a3.2⟩, ⟨cell, by rw [hlow _ a2]; exact e1, e2, e3, e4, e5, fun z hz => by rw [hg]; exact e6 z hz⟩, fun z hz => by rw [hg]; exact a5 z hz⟩
/-- a cell is made -/
theorem HR.new {D : va_G} {G : zG} {U : State} {H H' : Heap} {h : zH} (k : HR D G U H h) {c : Nat} (sz : Nat) (hc : c < 100) (hd : ∀ j : Nat, j < zsN c → okT (nw h c sz) (zsT c j) (zdf c j)) (hsz : H'.size = H.size + 1) (ho : ∀ q, q < H.size → H'[q]? = H[q]?) (hcell : zCell D G U H' (nw h c sz) c (cn h c)) : HR D G U H' (nw h c sz) := by
  obtain ⟨k1, k2, k3, k4, k5, k6⟩ := k
  have hX : zXt h (nw h c sz) := zXt.nw
  have hold : ∀ (c' : Nat) (i' : Int), 0 ≤ i' → i' < cn (nw h c sz) c' → (c' = c ∧ i' = cn h c) ∨ (i' < cn h c' ∧ ¬ (c' = c ∧ i' = cn h c)) := by
    intro c' i' a b
    rw [cn_nw] at b
    by_cases hcc : c' = c
    · subst hcc
      rw [if_pos rfl] at b
      by_cases hi : i' = cn h c'
      · exact Or.inl ⟨rfl, hi⟩
      · exact Or.inr ⟨by omega, fun q => hi q.2⟩
    · rw [if_neg hcc] at b
      exact Or.inr ⟨b, fun q => hcc q.1⟩
  have hps : ps (nw h c sz) c (cn h c) = nn h := by
    show (if c = c ∧ h.1 c = h.1 c then h.2.2.2.1 else h.2.2.1 c (h.1 c)) = _
    rw [if_pos ⟨rfl, rfl⟩]; rfl
  refine ⟨?_, fun c' => ?_, fun c' i' hc' h0' h1' => ?_, fun c1 i1 c2 i2 a1 a2 a3 a4 a5 a6 a7 => ?_, fun c' a b => ?_, fun c' a b => (k6 c' a b).kept fun q hq _ => ho q hq⟩
  · rw [hsz, k1]; show G.1 + nn h + 1 = G.1 + (h.2.2.2.1 + 1); unfold nn; omega
  · rw [cn_nw]; have := k2 c; have := k2 c'; split <;> omega
  · rcases hold c' i' h0' h1' with ⟨rfl, rfl⟩ | ⟨h1, hne⟩
    · refine ⟨?_, hcell, fun j hj => ?_⟩
      · rw [hps]; exact Nat.lt_succ_self _
      · rw [gt_nw, if_pos ⟨rfl, rfl⟩]; exact hd j hj
    · obtain ⟨a, b, d⟩ := k3 c' i' hc' h0' h1
      have hg : ∀ j' : Int, gt (nw h c sz) c' i' j' = gt h c' i' j' := fun j' => by rw [gt_nw, if_neg hne]
      have ha : ad G (nw h c sz) c' i' = ad G h c' i' := by unfold ad; rw [(hX.2.2 c' i' h0' h1).2]
      have hlt : ad G h c' i' < H.size := by unfold ad; rw [if_pos hc', k1]; omega
      refine ⟨?_, ⟨fun hh => ?_, fun hh => ?_⟩, fun j' hj' => by rw [hg]; exact (d j' hj').xt hX⟩
      · rw [(hX.2.2 c' i' h0' h1).2]; exact Nat.lt_succ_of_lt a
      · obtain ⟨b1, b2⟩ := b.1 hh
        refine ⟨b1, ?_⟩
        rw [ha]
        refine (b2.kept (ho _ hlt)).to fun z hz => ?_
        have := d z (by unfold zsN; rw [if_pos hh]; exact hz)
        unfold zsT at this
        rw [if_pos hh] at this
        rw [hg, cv_xt hX (okV_mk this)]
      · obtain ⟨cA, b1, b2⟩ := b.2 hh
        refine ⟨cA, ?_, b2⟩
        rw [ha, ho _ hlt, b1]
        refine congrArg some (arrV_congr fun z hz => ?_)
        have := d z (by unfold zsN; rw [if_neg (by omega)]; exact hz)
        unfold zsT at this
        rw [if_neg (by omega)] at this
        rw [hg, cv_xt hX (okV_mk this)]
  · rcases hold c1 i1 a3 a4 with ⟨rfl, rfl⟩ | ⟨b1, n1⟩ <;> rcases hold c2 i2 a5 a6 with ⟨e1, e2⟩ | ⟨b2, n2⟩
    · exact ⟨e1.symm, e2.symm⟩
    · rw [hps, (hX.2.2 c2 i2 a5 b2).2] at a7
      have := (k3 c2 i2 a2 a5 b2).1
      omega
    · subst e1; subst e2
      rw [hps, (hX.2.2 c1 i1 a3 b1).2] at a7
      have := (k3 c1 i1 a1 a3 b1).1
      omega
    · rw [(hX.2.2 c1 i1 a3 b1).2, (hX.2.2 c2 i2 a5 b2).2] at a7
      exact k4 c1 i1 c2 i2 a1 a2 a3 b1 a5 b2 a7
  · obtain ⟨a1, a2, a3, ⟨cell, e1, e2, e3, e4, e5, e6⟩, a5⟩ := k5 c' a b
    have hg : ∀ j' : Int, gt (nw h c sz) c' 0 j' = gt h c' 0 j' := fun j' => by rw [gt_nw, if_neg]; exact fun q => by omega
    exact ⟨by rw [cn_nw, if_neg (by omega)]; exact a1, a2, ⟨a3.1, by rw [hg]; exact a3.2⟩, ⟨cell, by rw [ho _ (Nat.lt_of_lt_of_le a2 (by omega))]; exact e1, e2, e3, e4, e5, fun z hz => by rw [hg]; exact e6 z hz⟩, fun z hz => by rw [hg]; exact a5 z hz⟩

/-! ROWS of Ex that read and write the heap -/
theorem nf {G : zG} {h : zH} {t : Nat} {x : Int} (ht : t < 3 ∨ 10 ≤ t) (k : okT h t x) : narrow (zft t) (cv G h (mk t x)) = cv G h (mk t x) ∧ fits (zft t) (cv G h (mk t x)) = true := by
  obtain ⟨k0, k1, k2, k3, k4⟩ := k
  by_cases h10 : 10 ≤ t
  · have e1 : mk t x = vr (t - 10) x := by unfold mk; rw [if_neg (by omega), if_neg (by omega)]
    have e2 : cv G h (vr (t - 10) x) = if x < 0 then Value.null else .ref (ad G h (t - 10) x) := rfl
    rw [e1, e2]
    unfold zft zft0
    by_cases h30 : t < 30
    · rw [if_pos h30, if_neg (by omega), if_neg (by omega), if_neg (by omega)]
      by_cases hx : x < 0
      · rw [if_pos hx]; exact ⟨rfl, rfl⟩
      · rw [if_neg hx]; exact ⟨rfl, rfl⟩
    · rw [if_neg h30]
      by_cases hx : x < 0
      · rw [if_pos hx]; exact ⟨rfl, rfl⟩
      · rw [if_neg hx]; exact ⟨rfl, rfl⟩
  · rcases (show t = 0 ∨ t = 1 ∨ t = 2 by omega) with rfl | rfl | rfl
    · exact ⟨rfl, rfl⟩
    · exact ⟨rfl, rfl⟩
    · rcases k2 rfl with rfl | rfl <;> exact ⟨rfl, rfl⟩
theorem okT_of {h : zH} {t : Nat} {x : Int} (ht : t < 3 ∨ 10 ≤ t) (hv : okV h (mk t x)) (hz : t = 2 → x = 0 ∨ x = 1) : okT h t x := by
  refine ⟨fun e => ?_, fun e => ?_, hz, fun a b => by omega, fun a => ?_⟩
  · subst e; exact hv
  · subst e; exact hv
  · unfold mk at hv; rw [if_neg (by omega), if_neg (by omega)] at hv; exact hv
section EH
variable {d : Nat} {M : zM} {pc q : Nat} {lo : List (Option zV)} {st : List zV} {h : zH} {Q : zQ}
/-- a field's link, of the own class or a nest mate's -/
def zFL (own : String) (idx c j : Nat) : Prop := c < 13 ∧ j < zN c ∧ (Cond.fieldLink own idx (zTX c j).1 (zTX c j).2.1 (zTX c j).2.2.1 ∈ zTbl ∨ ∃ host, Cond.fieldLinkNest own idx (zTX c j).1 (zTX c j).2.1 (zTX c j).2.2.1 host ∈ lw_tbl)
theorem HR.obj {D : va_G} {G : zG} {U : State} {H : Heap} {h : zH} (k : HR D G U H h) {c : Nat} {i : Int} (hc : c < 13) (hv : okV h (vr c i)) (hi : 0 ≤ i) : i < cn h c ∧ ps h c i < nn h ∧ ad G h c i = G.1 + ps h c i ∧ t_OB (ad G h c i) (D.1 c) (zN c) (D.2 c) H (fun j => cv G h (mk (zT c j) (gt h c i j))) ∧ (∀ j : Nat, j < zN c → okT h (zT c j) (gt h c i j)) ∧ cv G h (vr c i) = .ref (ad G h c i) := by
  have hlt : i < cn h c := by
    rcases (show i = -1 ∨ (0 ≤ i ∧ i < cn h c) from hv) with q | q
    · omega
    · exact q.2
  obtain ⟨a, b, e⟩ := k.2.2.1 c i (by omega) hi hlt
  refine ⟨hlt, a, ?_, (b.1 (by omega)).2, fun j hj => ?_, ?_⟩
  · unfold ad; rw [if_pos (by omega)]
  · have := e j (by unfold zsN; rw [if_pos (by omega)]; exact hj)
    unfold zsT at this
    rw [if_pos (by omega)] at this
    exact this
  · show (if i < 0 then Value.null else .ref (ad G h c i)) = _
    rw [if_neg (by omega)]
theorem ex_get {c : Nat} (j : Nat) {i jz : Int} {idx : Nat} {v : zV} (hd : decode M.2.1 pc = .ok (.getfield idx, 3)) (hq : pc + 3 = q) (hl : zFL M.1 idx c j) (hi : 0 ≤ i) (hj : (j : Int) = jz) (hv : mk (zT c j) (gt h c i jz) = v) (k : Ex d M q lo (v :: st) h Q) : Ex d M pc lo (vr c i :: st) h Q := by
  subst hq; subst hj; subst hv
  obtain ⟨hc, hjn, hl⟩ := hl
  refine ⟨k.1, fun p l e R s m args below meth cd D G n0 u0 Qm cx room ret hn hu H ls locs hR hL okl oks hlo => ?_⟩
  obtain ⟨b1, b2, b3, b4, b5, b6⟩ := hR.obj hc oks.hd hi
  have K := k.2 p l e R s m args below meth cd D G n0 u0 Qm cx room ret hn hu H ls locs hR hL okl (okS.cons (okV_mk (b5 j hjn)) oks.tl) hlo
  rw [List.map_cons] at K ⊢
  rw [b6]
  obtain ⟨cell, q1, q2, q3, q4⟩ := b4
  obtain ⟨hS, hfc, kC, hkC, hkind⟩ := cx.2.2.2.2.2.2.2.2.1.1 c _ (zcl hc)
  obtain ⟨cf, kf, fi, f, hi2, hsl⟩ := hS j hjn
  have hst := (u_facts hfc hkC (u_lays cx.2.2.2.2.1 (zin hc) hjn) hi2).1
  have hslot : cell.slots[f.slot]? = some (cv G h (mk (zT c j) (gt h c i j))) := by rw [hsl]; exact q4 j hjn
  rcases hl with hl | ⟨host, hl⟩
  · exact W.getf cx.1 cx.2.1 cx.2.2.2.1 (cx.2.2.2.2.1 _ hl) hi2 hst q1 (by rw [q3]; exact fun h => by cases h) hslot rfl rfl hd K
  · exact va_Wgetf cx.1 cx.2.1 cx.2.2.2.1 (va_Nw.use rfl (cx.2.2.2.2.2.2.2.2.2.1 _ hl rfl)) hi2 hst q1 (by rw [q3]; exact fun h => by cases h) hslot rfl rfl hd K
/-- a step that changes the heap -/
theorem ex_hp {pc' : Nat} {lo' : List (Option zV)} {st' : List zV} {h' : zH} (k : Ex d M pc' lo' st' h' Q) (x : zXt h h') (hok : (∀ c, 0 ≤ cn h c) → okL h lo → okS h st → okL h' lo' ∧ okS h' st')
    (hstep : ∀ (p : Program) (l : Launch) (e : Env) (R : Room) (s : State) (m : MethodId) (args : Array Value) (below : List Frame) (meth : Method) (c : Code) (D : va_G) (G : zG) (cells slots : Nat) (Qm : State → Prop) (H : Heap) (ls : Array Slot) (locs : List Loc),
      zCx d M p R s m args meth c D → HR D G s H h → LR ls M.2.2.1 G h lo → okL h lo → okS h st → (∀ q ∈ locs, G.1 ≤ q.base) → cells + (nn h' - nn h) ≤ R.cells → slots + (us h' - us h) ≤ R.slots →
      (∀ (H' : Heap) (ls' : Array Slot) (locs' : List Loc), HR D G s H' h' → LR ls' M.2.2.1 G h' lo' → (∀ q ∈ locs', G.1 ≤ q.base) → W p l e R s m args below meth c H' locs' (cells + (nn h' - nn h)) (slots + (us h' - us h)) Qm (F0 m pc' ls' (st'.map (cv G h')))) →
      W p l e R s m args below meth c H locs cells slots Qm (F0 m pc ls (st.map (cv G h)))) : Ex d M pc lo st h Q := by
  obtain ⟨⟨r, hF, hq, x2⟩, k2⟩ := k
  refine ⟨⟨r, hF, hq, x.tr x2⟩, fun p l e R s m args below meth c D G n0 u0 Qm cx room ret hn hu H ls locs hR hL okl oks hlo => ?_⟩
  have r1 := room r hF hq
  have x1 := x.1
  have x3 := x.2.1
  have x4 := x2.1
  have x5 := x2.2.1
  refine hstep p l e R s m args below meth c D G _ _ Qm H ls locs cx hR hL okl oks hlo (by omega) (by omega) fun H' ls' locs' hR' hL' hlo' => ?_
  have K := k2 p l e R s m args below meth c D G n0 u0 Qm cx room ret (by omega) (by omega) H' ls' locs' hR' hL' (hok hR.2.1 okl oks).1 (hok hR.2.1 okl oks).2 hlo'
  rw [show nn h' - n0 = nn h - n0 + (nn h' - nn h) by omega, show us h' - u0 = us h - u0 + (us h' - us h) by omega] at K
  exact K
theorem locs_put {G : zG} {locs : List Loc} {a k : Nat} (h : ∀ q ∈ locs, G.1 ≤ q.base) (ha : G.1 ≤ a) : ∀ q ∈ locs ++ [⟨a, k⟩], G.1 ≤ q.base := fun q hq => by
  rcases List.mem_append.mp hq with z | z
  · exact h q z
  · rw [List.mem_singleton.mp z]; exact ha
theorem ob_put {D : va_G} {G : zG} {h : zH} {H' : Heap} {c j : Nat} {i x : Int} {cell : Cell} (hc : c < 13) (hap : ∀ a b, a < zN c → b < zN c → a ≠ b → D.2 c a ≠ D.2 c b) (hj : j < zN c) (q2 : cell.cls = D.1 c) (q3 : cell.vm = .none) (q4 : ∀ k, k < zN c → cell.slots[D.2 c k]? = some (cv G h (mk (zT c k) (gt h c i k)))) (e1 : H'[ad G h c i]? = some (cell.setSlot (D.2 c j) (cv G h (mk (zT c j) x)))) : t_OB (ad G (pt h c i j x) c i) (D.1 c) (zN c) (D.2 c) H' (fun k => cv G (pt h c i j x) (mk (zT c k) (gt (pt h c i j x) c i k))) := by
  refine t_OB.to (V := updV (fun k => cv G h (mk (zT c k) (gt h c i k))) j (cv G h (mk (zT c j) x))) ⟨_, e1, q2, q3, t_set q4 hap hj _⟩ fun k _ => ?_
  unfold updV
  rw [gt_pt]
  by_cases hk : k = j
  · subst hk; rw [if_pos rfl, if_pos ⟨rfl, rfl, rfl⟩]; rfl
  · rw [if_neg hk, if_neg fun z => hk (by omega)]; rfl
theorem ex_put {c : Nat} (j : Nat) {i x jz : Int} {idx : Nat} {v : zV} (hd : decode M.2.1 pc = .ok (.putfield idx, 3)) (hq : pc + 3 = q) (hl : zFL M.1 idx c j) (hf : (zTX c j).2.2.2 = false) (hi : 0 ≤ i) (hj : (j : Int) = jz) (hv : mk (zT c j) x = v) (hz : zT c j = 2 → x = 0 ∨ x = 1) (k : Ex d M q lo st (pt h c i jz x) Q) : Ex d M pc lo (v :: vr c i :: st) h Q := by
  subst hq; subst hj; subst hv
  obtain ⟨hc, hjn, hl⟩ := hl
  refine ex_hp k zXt.pt (fun _ a b => ⟨a.xt zXt.pt, b.tl.tl.xt zXt.pt⟩) fun p l e R s m args below meth cd D G cells slots Qm H ls locs cx hR hL okl oks hlo _ _ K => ?_
  obtain ⟨b1, b2, b3, b4, b5, b6⟩ := hR.obj hc oks.tl.hd hi
  have hT := okT_of (ztc hc j hjn) oks.hd hz
  rw [List.map_cons, List.map_cons, b6]
  obtain ⟨cell, q1, q2, q3, q4⟩ := b4
  have hKc := cx.2.2.2.2.2.2.2.2.1
  have hap := va_apart (own := M.1) cx.2.2.2.2.1 (zin hc) (fun k => zft (zT c k)) (zty hc) (znm hc) hKc (zcl hc)
  obtain ⟨hS, hfc, kC, hkC, hkind⟩ := hKc.1 c _ (zcl hc)
  obtain ⟨cf, kf, fi, f, hi2, hsl⟩ := hS j hjn
  have hlay := cx.2.2.2.2.1 _ (zin hc _ (u_in_lay hjn))
  unfold u_lay at hlay
  rw [if_neg (by rw [hf]; decide)] at hlay
  have hst := (u_facts hfc hkC (u_lays cx.2.2.2.2.1 (zin hc) hjn) hi2).1
  have h6 := u_store (v := cv G h (mk (zT c j) x)) hfc hkC hkind hlay hi2 (zty hc j hjn) (nf (ztc hc j hjn) hT).1 (nf (ztc hc j hjn) hT).2
  have fin : ∀ H' : Heap, H'[ad G h c i]? = some (cell.setSlot f.slot (cv G h (mk (zT c j) x))) → H'.size = H.size → (∀ q, q ≠ ad G h c i → H'[q]? = H[q]?) → W p l e R s m args below meth cd H' (locs ++ [⟨ad G h c i, f.slot⟩]) cells slots Qm (F0 m (pc + 3) ls (st.map (cv G h))) := fun H' e1 e2 e3 => by
    rw [hsl] at e1
    have K := K H' ls (locs ++ [⟨ad G h c i, f.slot⟩]) (hR.put (by omega) hi b1 (fun j' hj' _ => by
      have : j = j' := by omega
      subst this; unfold zsT; rw [if_pos (by omega)]; exact hT) e2 e3 ⟨fun _ => ⟨hc, ob_put hc hap hjn q2 q3 q4 e1⟩, fun z => by omega⟩) (hL.xt okl zXt.pt) (locs_put hlo (by rw [b3]; omega))
    rw [show nn (pt h c i j x) = nn h from rfl, show us (pt h c i j x) = us h from rfl, Nat.sub_self, Nat.sub_self] at K
    exact K
  rcases hl with hl | ⟨host, hl⟩
  · exact W.putK cx.1 cx.2.1 (f := f) ⟨cx.2.2.2.1, cx.2.2.2.2.1 _ hl, ⟨_, _, _, hi2⟩, hst⟩ (by rw [q2]; exact h6) q1 q3 (by rw [hsl]; exact k2_hasslot (q4 j hjn)) rfl rfl hd fin
  · exact va_WputK cx.1 cx.2.1 (f := f) cx.2.2.2.1 (va_Nw.use rfl (cx.2.2.2.2.2.2.2.2.2.1 _ hl rfl)) hi2 hst (by rw [q2]; exact h6) q1 q3 (by rw [hsl]; exact k2_hasslot (q4 j hjn)) rfl rfl hd fin
theorem ex_putF {c : Nat} (j : Nat) {i x jz : Int} {idx : Nat} {v : zV} (hd : decode M.2.1 pc = .ok (.putfield idx, 3)) (hq : pc + 3 = q) (hc : c < 13) (hjn : j < zN c) (hl : Cond.fieldLink M.1 idx (zTX c j).1 (zTX c j).2.1 (zTX c j).2.2.1 ∈ zTbl) (hf : (zTX c j).2.2.2 = true) (hini : M.2.2.2.2 = true) (hown : (zTX c j).1 = M.1) (hi : 0 ≤ i) (hj : (j : Int) = jz) (hv : mk (zT c j) x = v) (hz : zT c j = 2 → x = 0 ∨ x = 1) (k : Ex d M q lo st (pt h c i jz x) Q) : Ex d M pc lo (v :: vr c i :: st) h Q := by
  subst hq; subst hj; subst hv
  refine ex_hp k zXt.pt (fun _ a b => ⟨a.xt zXt.pt, b.tl.tl.xt zXt.pt⟩) fun p l e R s m args below meth cd D G cells slots Qm H ls locs cx hR hL okl oks hlo _ _ K => ?_
  obtain ⟨b1, b2, b3, b4, b5, b6⟩ := hR.obj hc oks.tl.hd hi
  have hT := okT_of (ztc hc j hjn) oks.hd hz
  rw [List.map_cons, List.map_cons, b6]
  obtain ⟨cell, q1, q2, q3, q4⟩ := b4
  have hKc := cx.2.2.2.2.2.2.2.2.1
  have hap := va_apart (own := M.1) cx.2.2.2.2.1 (zin hc) (fun k => zft (zT c k)) (zty hc) (znm hc) hKc (zcl hc)
  obtain ⟨hS, hfc, kC, hkC, hkind⟩ := hKc.1 c _ (zcl hc)
  obtain ⟨cf, kf, fi, f, hi2, hsl⟩ := hS j hjn
  have hlay := cx.2.2.2.2.1 _ (zin hc _ (u_in_lay hjn))
  unfold u_lay at hlay
  rw [if_pos hf] at hlay
  have hst := (u_facts hfc hkC (u_lays cx.2.2.2.2.1 (zin hc) hjn) hi2).1
  have hcf : m.cls = cf := by
    obtain ⟨_, _, c', _, _, _, -, -, hf', -, -, -, hown2, -⟩ := Cond.laysFinal_spec hlay
    cases hf'.symm.trans hi2
    rw [hown] at hown2
    exact Option.some.inj (cx.2.2.2.1.symm.trans hown2)
  refine W.putFinK cx.1 cx.2.1 cx.2.2.2.1 (cx.2.2.2.2.1 _ hl) hi2 hst hcf (cx.2.2.2.2.2.1 hini) (by rw [q2]; exact u_fits hfc hkC hkind (u_lays cx.2.2.2.2.1 (zin hc) hjn) hi2 (zty hc j hjn) (nf (ztc hc j hjn) hT).1 (nf (ztc hc j hjn) hT).2) q1 q3 (by rw [hsl]; exact k2_hasslot (q4 j hjn)) rfl rfl hd fun H' e1 e2 e3 => ?_
  rw [hsl] at e1
  have K := K H' ls (locs ++ [⟨ad G h c i, f.slot⟩]) (hR.put (by omega) hi b1 (fun j' hj' _ => by
    have : j = j' := by omega
    subst this; unfold zsT; rw [if_pos (by omega)]; exact hT) e2 e3 ⟨fun _ => ⟨hc, ob_put hc hap hjn q2 q3 q4 e1⟩, fun z => by omega⟩) (hL.xt okl zXt.pt) (locs_put hlo (by rw [b3]; omega))
  rw [show nn (pt h c i j x) = nn h from rfl, show us (pt h c i j x) = us h from rfl, Nat.sub_self, Nat.sub_self] at K
  exact K
end EH

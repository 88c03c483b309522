def zA100 : List Int := [7, 7, 7, 7, 7, 7, 7, 11, 11, -1, -1, 20, -1, -1, 11, -1, -1]
def zA101 : List Int := [59, 39, 59, -1, -1, 7, 9, 7, -1, -1, -1, -1, -1, -1, -1, -1, -1]
def zA102 : List Int := [-1, 0, 1, 1, 1, 0, 5, 0, 0, 0, 9, 5]
/-! THE PURE PART: programs over two heap pictures, the class's and the reference's -/
def Ok (o : zO) (Q : Int → zH → Prop) : Prop := ∃ r h', o = some (r, h') ∧ Q r h'
theorem ok_some {r : Int} {h : zH} {Q : Int → zH → Prop} (k : Q r h) : Ok (some (r, h)) Q := ⟨r, h, rfl, k⟩
theorem ok_t {P : Prop} [Decidable P] {a b : zO} {Q : Int → zH → Prop} (c : P) (k : Ok a Q) : Ok (if P then a else b) Q := by rw [if_pos c]; exact k
theorem ok_f {P : Prop} [Decidable P] {a b : zO} {Q : Int → zH → Prop} (c : ¬ P) (k : Ok b Q) : Ok (if P then a else b) Q := by rw [if_neg c]; exact k
theorem ok_if {P : Prop} [Decidable P] {a b : zO} {Q : Int → zH → Prop} (ka : P → Ok a Q) (kb : ¬ P → Ok b Q) : Ok (if P then a else b) Q := by
  by_cases c : P
  · exact ok_t c (ka c)
  · exact ok_f c (kb c)
theorem ok_zb {o : zO} {k : Int → zH → zO} {Q : Int → zH → Prop} {Q1 : Int → zH → Prop} (a : Ok o Q1) (b : ∀ r h, Q1 r h → Ok (k r h) Q) : Ok (zb o k) Q := by
  obtain ⟨r, h', rfl, q⟩ := a
  exact b r h' q
theorem ok_e {o : zO} {r : Int} {h : zH} {k : Int → zH → zO} {Q : Int → zH → Prop} (e : o = some (r, h)) (b : Ok (k r h) Q) : Ok (zb o k) Q := by rw [e]; exact b
theorem ok_zl {h : zH} {k : zH → zO} {Q : Int → zH → Prop} (a : Ok (k h) Q) : Ok (zl h k) Q := a
theorem ok_w {o : zO} {Q Q' : Int → zH → Prop} (a : Ok o Q) (b : ∀ r h, Q r h → Q' r h) : Ok o Q' := by
  obtain ⟨r, h', e, q⟩ := a
  exact ⟨r, h', e, b r h' q⟩
theorem ok_eq {o : zO} {Q : Int → zH → Prop} {r : Int} {h : zH} (e : o = some (r, h)) (k : Q r h) : Ok o Q := ⟨r, h, e, k⟩
/-- a kind's slots, all at once -/
def up (h : zH) (c : Nat) (f : Int → Int → Int) : zH := (h.1, (fun c' => if c' = c then f else h.2.1 c', h.2.2))
theorem gt_up (h : zH) (c : Nat) (f : Int → Int → Int) (c' : Nat) (i j : Int) : gt (up h c f) c' i j = if c' = c then f i j else gt h c' i j := by
  show (if c' = c then f else h.2.1 c') i j = _
  by_cases e : c' = c
  · rw [if_pos e, if_pos e]
  · rw [if_neg e, if_neg e]; rfl
theorem cn_up (h : zH) (c : Nat) (f : Int → Int → Int) (c' : Nat) : cn (up h c f) c' = cn h c' := rfl
theorem zH_ext {a b : zH} (n : FrN a b) (g : ∀ c i j, gt b c i j = gt a c i j) : b = a := by
  obtain ⟨a1, a2, a3⟩ := a
  obtain ⟨b1, b2, b3⟩ := b
  obtain ⟨n1, n2⟩ := n
  have n1 : b1 = a1 := n1
  have n2 : b3 = a3 := n2
  have g2 : b2 = a2 := by funext c i j; exact g c i j
  rw [n1, n2, g2]
theorem FrN.up {a h : zH} {c : Nat} {f : Int → Int → Int} (k : FrN a h) : FrN a (up h c f) := ⟨k.1, k.2⟩
theorem nn_pt (h : zH) (c : Nat) (i j v : Int) : nn (pt h c i j v) = nn h := rfl
theorem us_pt (h : zH) (c : Nat) (i j v : Int) : us (pt h c i j v) = us h := rfl
theorem nn_nw (h : zH) (c sz : Nat) : nn (nw h c sz) = nn h + 1 := rfl
theorem us_nw (h : zH) (c sz : Nat) : us (nw h c sz) = us h + sz := rfl
theorem wI_lit {z : Int} (h1 : -2147483648 ≤ z) (h2 : z < 2147483648) : wI z = z := wI_eq ⟨h1, h2⟩
-- leaves of the class that every road needs
theorem s_within (a b : Int) (h : zH) : F_X11_within a b h = some (if 0 ≤ a ∧ a < b then 1 else 0, h) := by
  unfold F_X11_within F_X11_within_0
  by_cases h1 : a < 0
  · rw [if_pos h1, if_neg (by omega)]
  · rw [if_neg h1]
    by_cases h2 : b ≤ a
    · rw [if_pos h2, if_neg (by omega)]
    · rw [if_neg h2, if_pos (by omega)]
theorem lc_neg {a b : Int} : lc a b < 0 ↔ a < b := by unfold lc; split <;> (try split) <;> omega
theorem lc_pos {a b : Int} : 0 < lc a b ↔ b < a := by unfold lc; split <;> (try split) <;> omega
theorem s_in (a b c : Int) (h : zH) : F_X12_in a b c h = some (if b ≤ a ∧ a ≤ c then 1 else 0, h) := by
  unfold F_X12_in F_X12_in_0
  by_cases h1 : a < b
  · rw [if_pos (lc_neg.mpr h1), if_neg (by omega)]
  · rw [if_neg (fun z => h1 (lc_neg.mp z))]
    by_cases h2 : c < a
    · rw [if_pos (lc_pos.mpr h2), if_neg (by omega)]
    · rw [if_neg (fun z => h2 (lc_pos.mp z)), if_pos (by omega)]
theorem ok_within {a b : Int} {h : zH} {k : Int → zH → zO} {Q : Int → zH → Prop} (ka : 0 ≤ a ∧ a < b → Ok (k 1 h) Q) (kb : ¬ (0 ≤ a ∧ a < b) → Ok (k 0 h) Q) : Ok (zb (F_X11_within a b h) k) Q := by
  refine ok_e (s_within a b h) ?_
  by_cases c : 0 ≤ a ∧ a < b
  · rw [if_pos c]; exact ka c
  · rw [if_neg c]; exact kb c
theorem ok_in {a b c : Int} {h : zH} {k : Int → zH → zO} {Q : Int → zH → Prop} (ka : b ≤ a ∧ a ≤ c → Ok (k 1 h) Q) (kb : ¬ (b ≤ a ∧ a ≤ c) → Ok (k 0 h) Q) : Ok (zb (F_X12_in a b c h) k) Q := by
  refine ok_e (s_in a b c h) ?_
  by_cases z : b ≤ a ∧ a ≤ c
  · rw [if_pos z]; exact ka z
  · rw [if_neg z]; exact kb z

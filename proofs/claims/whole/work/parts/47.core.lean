/-! PARTS of LOANS, what is held, LEAKS while a RUN goes -/
abbrev zU (n : Nat) (hr : zH) (l : Int) : Prop := 0 ≤ l ∧ l < n ∧ gt hr 80 0 l = 1 ∧ gt hr 76 0 l ≠ 2
def PU (n : Nat) (c : Int) (hc hr : zH) : Prop :=
  (∀ l, zU n hr l → gt hr 52 0 (gt hr 75 0 l) = 1 ∧ gt hc 6 (gt hr 75 0 l) 4 = c ∧ ∀ i : Int, 0 ≤ i → i < gt hr 12 0 62 → gt hr 89 0 i ≠ gt hr 75 0 l) ∧
  (∀ l l', zU n hr l → zU n hr l' → gt hr 75 0 l = gt hr 75 0 l' → l = l') ∧
  ∀ p : Int, 0 ≤ p → p < gt hr 12 0 0 → gt hr 52 0 p = 1 → (∃ i : Int, 0 ≤ i ∧ i < gt hr 12 0 62 ∧ gt hr 89 0 i = p) ∨ ∃ l, zU n hr l ∧ gt hr 75 0 l = p
def zLg (hr : zH) (k : Int) : Int := if gt hr 80 0 k = 1 ∧ gt hr 76 0 k = 1 then 1 else 0
def zLc (hr : zH) (n : Nat) : Int := zSum (zLg hr) n
def PH (n : Nat) (hc hr : zH) : Prop := gt hc 3 0 5 = gt hr 12 0 62 + zLc hr n ∧
  (∀ l : Nat, l < n → gt hr 80 0 l = 1 → gt hr 76 0 l = 1 → gt hc 29 0 (gt hr 12 0 62 + zLc hr l) = gt hr 75 0 l) ∧
  (∀ i : Int, 0 ≤ i → i < gt hc 3 0 5 → 0 ≤ gt hc 29 0 i ∧ gt hc 29 0 i < gt hr 12 0 0 ∧ gt hr 52 0 (gt hc 29 0 i) = 1 ∧ ∀ l, zU n hr l → gt hr 76 0 l = 0 → gt hc 29 0 i ≠ gt hr 75 0 l) ∧
  (∀ i j : Int, 0 ≤ i → i < j → j < gt hc 3 0 5 → gt hc 29 0 i ≠ gt hc 29 0 j)
def PL (hc hr : zH) : Prop := 0 ≤ gt hr 12 0 62 ∧
  (∀ i : Int, 0 ≤ i → i < gt hr 12 0 62 → gt hc 29 0 i = gt hr 89 0 i ∧ 0 ≤ gt hr 89 0 i ∧ gt hr 89 0 i < gt hr 12 0 0 ∧ gt hr 52 0 (gt hr 89 0 i) = 1 ∧ gt hc 6 (gt hr 89 0 i) 4 = gt hr 90 0 i ∧ 0 ≤ gt hr 90 0 i ∧ gt hr 90 0 i < 8 ∧
    gt hc 6 (gt hr 89 0 i) 7 = gt hr 91 0 i ∧ 0 ≤ gt hr 91 0 i ∧ gt hr 91 0 i ≤ 10 ∧ ∀ k : Int, 0 ≤ k → k < gt hr 91 0 i → gt hc 34 (gt hr 89 0 i) k = gt hr 92 0 (20 * i + 2 * k) ∧ gt hc 35 (gt hr 89 0 i) k = gt hr 92 0 (20 * i + 2 * k + 1)) ∧
  (∀ i j : Int, 0 ≤ i → i < j → j < gt hr 12 0 62 → gt hr 89 0 i ≠ gt hr 89 0 j)
def PTr (n : Nat) (hc hr : zH) : Prop := ∀ l, zU n hr l → gt hr 76 0 l = 1 → gt hc 6 (gt hr 75 0 l) 7 = gt hr 81 0 l ∧ 0 ≤ gt hr 81 0 l ∧ gt hr 81 0 l ≤ 10 ∧ ∀ k : Int, 0 ≤ k → k < gt hr 81 0 l → gt hc 34 (gt hr 75 0 l) k = gt hr 82 0 (20 * l + 2 * k) ∧ gt hc 35 (gt hr 75 0 l) k = gt hr 82 0 (20 * l + 2 * k + 1)
theorem zSum_mo {f : Int → Int} (h : ∀ j, 0 ≤ f j) {m : Nat} : ∀ (n : Nat), m ≤ n → zSum f m ≤ zSum f n
  | 0, a => by rw [Nat.le_zero.mp a]; exact Int.le_refl _
  | n + 1, a => by
    by_cases c : m = n + 1
    · rw [c]; exact Int.le_refl _
    · have ih := zSum_mo h (m := m) n (by omega)
      have := h n
      have e : zSum f (n + 1) = zSum f n + f n := rfl
      rw [e]; omega
theorem zSum_ge {f : Int → Int} (h : ∀ j, 0 ≤ f j) (n : Nat) : 0 ≤ zSum f n := zSum_mo h (m := 0) n (Nat.zero_le _)
theorem zLg_b (hr : zH) (k : Int) : 0 ≤ zLg hr k ∧ zLg hr k ≤ 1 := by
  unfold zLg
  split <;> decide
theorem zLc_lt {hr : zH} {k m : Nat} (a : gt hr 80 0 k = 1) (b : gt hr 76 0 k = 1) (km : k < m) : zLc hr k + 1 ≤ zLc hr m := by
  have h := zSum_mo (fun j => (zLg_b hr j).1) (m := k + 1) m km
  have e : zSum (zLg hr) (k + 1) = zSum (zLg hr) k + zLg hr k := rfl
  have g : zLg hr k = 1 := if_pos ⟨a, b⟩
  rw [e, g] at h
  exact h
theorem zLc_rm {hr hr' : zH} {l : Nat} (L : zLg hr l = 1) (E : ∀ k : Int, 0 ≤ k → zLg hr' k = if k = l then 0 else zLg hr k) (m : Nat) : zLc hr' m = if l < m then zLc hr m - 1 else zLc hr m := by
  have e : zLc hr' m = zSum (fun j => if j = (l : Int) then 0 else zLg hr j) m := zSum_cg m fun j a _ => E j a
  by_cases c : l < m
  · have := zSum_up (f := zLg hr) (p := l) (Int.natCast_nonneg l) m (by omega)
    rw [if_pos c, e]
    unfold zLc
    omega
  · rw [if_neg c, e]
    exact zSum_cg m fun j a b => if_neg (by omega)
theorem zLc_cg {hr hr' : zH} (E : ∀ k : Int, 0 ≤ k → zLg hr' k = zLg hr k) (m : Nat) : zLc hr' m = zLc hr m := zSum_cg m fun j a _ => E j a
theorem PU.rm {n : Nat} {c l : Int} {hc hr hc' hr' : zH} (K : PU n c hc hr) (Ul : zU n hr l) (E : ∀ k, zU n hr' k ↔ (zU n hr k ∧ k ≠ l)) (e75 : ∀ k, gt hr' 75 0 k = gt hr 75 0 k) (e62 : gt hr' 12 0 62 = gt hr 12 0 62) (e0 : gt hr' 12 0 0 = gt hr 12 0 0) (e89 : ∀ k, gt hr' 89 0 k = gt hr 89 0 k) (e6 : ∀ q, gt hc' 6 q 4 = gt hc 6 q 4)
    (so : ∀ q, q ≠ gt hr 75 0 l → gt hr' 52 0 q = gt hr 52 0 q) (sp : gt hr' 52 0 (gt hr 75 0 l) ≠ 1) : PU n c hc' hr' := by
  obtain ⟨k1, k2, k3⟩ := K
  unfold PU
  rw [e62, e0]
  refine ⟨fun k Uk => ?_, fun k k' Uk Uk' => ?_, fun p p0 p1 sp1 => ?_⟩
  · obtain ⟨Uk, kl⟩ := (E k).mp Uk
    obtain ⟨a1, a2, a3⟩ := k1 k Uk
    rw [e75, e6, so _ (fun z => kl (k2 k l Uk Ul z))]
    exact ⟨a1, a2, fun i i0 i1 => by rw [e89]; exact a3 i i0 i1⟩
  · rw [e75, e75]
    exact k2 k k' ((E k).mp Uk).1 ((E k').mp Uk').1
  · have pn : p ≠ gt hr 75 0 l := fun z => sp (by rw [← z]; exact sp1)
    rw [so p pn] at sp1
    rcases k3 p p0 p1 sp1 with ⟨i, i0, i1, i2⟩ | ⟨k, Uk, ek⟩
    · exact Or.inl ⟨i, i0, i1, by rw [e89]; exact i2⟩
    · exact Or.inr ⟨k, (E k).mpr ⟨Uk, fun z => pn (by rw [← ek, z])⟩, by rw [e75]; exact ek⟩
theorem PH.rm {n l : Nat} {hc hr hc' hr' : zH} {i0 : Int} (K : PH n hc hr) (lm0 : 0 ≤ gt hr 12 0 62) (Ul : zU n hr l) (E : ∀ k, zU n hr' k ↔ (zU n hr k ∧ k ≠ l)) (e75 : ∀ k, gt hr' 75 0 k = gt hr 75 0 k) (e76 : ∀ k, gt hr' 76 0 k = gt hr 76 0 k) (e62 : gt hr' 12 0 62 = gt hr 12 0 62) (e0 : gt hr' 12 0 0 = gt hr 12 0 0)
    (hi : (gt hr 76 0 l = 1 ∧ i0 = gt hr 12 0 62 + zLc hr l) ∨ (gt hr 76 0 l ≠ 1 ∧ gt hc 3 0 5 ≤ i0)) (eg : ∀ k : Int, 0 ≤ k → zLg hr' k = if k = l then 0 else zLg hr k)
    (so : ∀ q, q ≠ gt hr 75 0 l → gt hr' 52 0 q = gt hr 52 0 q) (hp : ∀ k, 0 ≤ k → k < gt hc 3 0 5 → (gt hc 29 0 k = gt hr 75 0 l ↔ k = i0))
    (h5 : gt hc' 3 0 5 = (if i0 < gt hc 3 0 5 then gt hc 3 0 5 - 1 else gt hc 3 0 5)) (h29 : ∀ k, 0 ≤ k → k < gt hc' 3 0 5 → gt hc' 29 0 k = if k < i0 then gt hc 29 0 k else gt hc 29 0 (k + 1)) : PH n hc' hr' := by
  obtain ⟨k1, k2, k3, k4⟩ := K
  have ln : (l : Int) < n := Ul.2.1
  have ln' : l < n := by omega
  have sh : ∀ k, 0 ≤ k → k < gt hc' 3 0 5 → ∃ j, gt hc' 29 0 k = gt hc 29 0 j ∧ 0 ≤ j ∧ j < gt hc 3 0 5 ∧ j ≠ i0 ∧ ((k < i0 ∧ j = k) ∨ (i0 ≤ k ∧ j = k + 1)) := fun k a b => by
    rw [h29 k a b]
    rw [h5] at b
    by_cases c : k < i0
    · rw [if_pos c]
      exact ⟨k, rfl, a, by split at b <;> omega, by omega, Or.inl ⟨c, rfl⟩⟩
    · rw [if_neg c]
      exact ⟨k + 1, rfl, by omega, by split at b <;> omega, by omega, Or.inr ⟨by omega, rfl⟩⟩
  have hlong : gt hr 76 0 l = 1 → zLg hr l = 1 := fun z => if_pos ⟨Ul.2.2.1, z⟩
  have hplain : gt hr 76 0 l ≠ 1 → ∀ k : Int, 0 ≤ k → zLg hr' k = zLg hr k := fun z k k0 => by
    rw [eg k k0]
    by_cases c : k = l
    · rw [if_pos c, c]; unfold zLg; rw [if_neg (fun y => z y.2)]
    · rw [if_neg c]
  have z0 : ∀ m, 0 ≤ zLc hr m := fun m => zSum_ge (fun j => (zLg_b hr j).1) m
  refine ⟨?_, fun k kn o1 o2 => ?_, fun i a b => ?_, fun i j a b c => ?_⟩
  · rw [e62, h5]
    rcases hi with ⟨z1, z2⟩ | ⟨z1, z2⟩
    · have := zLc_lt Ul.2.2.1 z1 ln'
      rw [zLc_rm (hlong z1) eg, if_pos ln', if_pos (by omega)]
      omega
    · rw [zLc_cg (hplain z1), if_neg (by omega)]; exact k1
  · rw [e76] at o2
    have Uk := (E k).mp ⟨Int.natCast_nonneg k, by omega, o1, by rw [e76, o2]; decide⟩
    have kl : k ≠ l := fun z => Uk.2 (by rw [z])
    have q := k2 k kn Uk.1.2.2.1 o2
    have kt := zLc_lt Uk.1.2.2.1 o2 kn
    rw [e62, e75]
    rcases hi with ⟨z1, z2⟩ | ⟨z1, z2⟩
    · have lt := zLc_lt Ul.2.2.1 z1 ln'
      have q0 := z0 k
      rw [zLc_rm (hlong z1) eg]
      by_cases d : l < k
      · have t := zLc_lt Ul.2.2.1 z1 d
        rw [if_pos d, h29 _ (by have := z0 l; omega) (by rw [h5, if_pos (by omega)]; omega), if_neg (by omega), ← q]
        congr 1; omega
      · have t := zLc_lt Uk.1.2.2.1 o2 (show k < l by omega)
        rw [if_neg d, h29 _ (by omega) (by rw [h5, if_pos (by omega)]; omega), if_pos (by omega)]; exact q
    · have q0 := z0 k
      rw [zLc_cg (hplain z1), h29 _ (by omega) (by rw [h5, if_neg (by omega)]; omega), if_pos (by omega)]; exact q
  · obtain ⟨j, e1, e2, e3, e4, _⟩ := sh i a b
    obtain ⟨m1, m2, m3, m4⟩ := k3 j e2 e3
    have nj : gt hc 29 0 j ≠ gt hr 75 0 l := fun z => e4 ((hp j e2 e3).mp z)
    rw [e1, e0, so _ nj]
    refine ⟨m1, m2, m3, fun k Uk o => ?_⟩
    rw [e75]
    rw [e76] at o
    exact m4 k ((E k).mp Uk).1 o
  · obtain ⟨x, e1, e2, e3, e4, e5⟩ := sh i a (by omega)
    obtain ⟨y, f1, f2, f3, f4, f5⟩ := sh j (by omega) c
    rw [e1, f1]
    exact k4 x y e2 (by omega) f3
theorem PL.rm {hc hr hc' hr' : zH} {p : Int} (K : PL hc hr) (e62 : gt hr' 12 0 62 = gt hr 12 0 62) (e0 : gt hr' 12 0 0 = gt hr 12 0 0) (e89 : gt hr' 89 0 = gt hr 89 0) (e90 : gt hr' 90 0 = gt hr 90 0) (e91 : gt hr' 91 0 = gt hr 91 0) (e92 : gt hr' 92 0 = gt hr 92 0)
    (e6 : ∀ q, gt hc' 6 q 4 = gt hc 6 q 4 ∧ gt hc' 6 q 7 = gt hc 6 q 7) (e34 : gt hc' 34 = gt hc 34) (e35 : gt hc' 35 = gt hc 35) (h29 : ∀ k, 0 ≤ k → k < gt hr 12 0 62 → gt hc' 29 0 k = gt hc 29 0 k) (np : ∀ i : Int, 0 ≤ i → i < gt hr 12 0 62 → gt hr 89 0 i ≠ p) (so : ∀ q, q ≠ p → gt hr' 52 0 q = gt hr 52 0 q) : PL hc' hr' := by
  obtain ⟨k1, k2, k3⟩ := K
  unfold PL
  rw [e62, e0, e89, e90, e91, e92, e34, e35]
  refine ⟨k1, fun i a b => ?_, k3⟩
  rw [h29 i a b, (e6 _).1, (e6 _).2, so _ (np i a b)]
  exact k2 i a b
theorem PTr.rm {n : Nat} {hc hr hc' hr' : zH} (K : PTr n hc hr) (E : ∀ k, zU n hr' k → zU n hr k) (e75 : gt hr' 75 0 = gt hr 75 0) (e76 : gt hr' 76 0 = gt hr 76 0) (e81 : gt hr' 81 0 = gt hr 81 0) (e82 : gt hr' 82 0 = gt hr 82 0) (e6 : ∀ q, gt hc' 6 q 7 = gt hc 6 q 7) (e34 : gt hc' 34 = gt hc 34) (e35 : gt hc' 35 = gt hc 35) : PTr n hc' hr' := by
  intro k Uk o
  rw [e76] at o
  rw [e75, e81, e82, e6, e34, e35]
  exact K k (E k Uk) o
theorem LN.cg {n : Nat} {S e : Int} {sid : Int → Int} {hc hr hc' hr' : zH} (K : LN n S e sid hc hr) (e4 : ∀ l j, 0 ≤ j → j < 8 → gt hc' 4 l j = gt hc 4 l j) (e9 : ∀ s, gt hc' 9 s 2 = gt hc 9 s 2) (er : ∀ c, 75 ≤ c → c ≤ 80 → gt hr' c 0 = gt hr c 0) (e0 : gt hr' 12 0 0 = gt hr 12 0 0) (e43 : gt hr' 12 0 43 = gt hr 12 0 43) : LN n S e sid hc' hr' := by
  have g5 : fL hc' 5 = fL hc 5 := by funext l; exact e4 l 5 (by decide) (by decide)
  have g6 : fL hc' 6 = fL hc 6 := by funext l; exact e4 l 6 (by decide) (by decide)
  have g7 : fL hc' 7 = fL hc 7 := by funext l; exact e4 l 7 (by decide) (by decide)
  have g9 : fS hc' = fS hc := by funext s; exact e9 s
  unfold LN LA LB LC
  rw [g5, g6, g7, g9, er 75 (by decide) (by decide), er 76 (by decide) (by decide), er 77 (by decide) (by decide), er 78 (by decide) (by decide), er 79 (by decide) (by decide), er 80 (by decide) (by decide), e0, e43]
  simp only [e4 _ 0 (by decide) (by decide), e4 _ 1 (by decide) (by decide), e4 _ 2 (by decide) (by decide), e4 _ 3 (by decide) (by decide), e4 _ 4 (by decide) (by decide), e4 _ 5 (by decide) (by decide), e4 _ 6 (by decide) (by decide), e4 _ 7 (by decide) (by decide)]
  exact K
theorem LN.fr {n : Nat} {S e : Int} {sid : Int → Int} {lc lr : List Nat} {mc mr : List (Nat × Int)} {hc hr hc' hr' : zH} (K : LN n S e sid hc hr) (xc : zFx lc mc hc hc') (dc : zdj [] [(4, 0), (4, 1), (4, 2), (4, 3), (4, 4), (4, 5), (4, 6), (4, 7), (9, 2)] lc mc = true) (xr : zFx lr mr hr hr') (dr : zdj [75, 76, 77, 78, 79, 80] [(12, 0), (12, 43)] lr mr = true) : LN n S e sid hc' hr' :=
  K.cg (fun l j a b => by
    rcases (show j = 0 ∨ j = 1 ∨ j = 2 ∨ j = 3 ∨ j = 4 ∨ j = 5 ∨ j = 6 ∨ j = 7 by omega) with rfl | rfl | rfl | rfl | rfl | rfl | rfl | rfl <;> exact zdf2 dc xc (by decide) l)
    (fun s => zdf2 dc xc (by decide) s)
    (fun c a b => by
      funext j
      rcases (show c = 75 ∨ c = 76 ∨ c = 77 ∨ c = 78 ∨ c = 79 ∨ c = 80 by omega) with rfl | rfl | rfl | rfl | rfl | rfl <;> exact zdk dr xr (by decide) 0 j)
    (zdf2 dr xr (by decide) 0) (zdf2 dr xr (by decide) 0)
/-- what a RUN keeps but for its BLOCKS -/
def CR (B : Int) (n : Nat) (S c : Int) (sid : Int → Int) (hc hr : zH) : Prop :=
  PIc hc ∧ PIr hr ∧ ST hc ∧ SC hc ∧ RP hc hr ∧ RC hc hr ∧ RPl hc hr ∧ RLg (B + n - zSum (gt hr 80 0) n) hc hr ∧ RCh hc hr ∧ RSx hc hr ∧
  (gt hc 8 0 9 = n ∧ gt hr 12 0 34 = n ∧ gt hr 12 0 56 = n ∧ n ≤ 160 ∧ gt hc 8 0 11 = c ∧ gt hr 12 0 61 = c ∧ 0 ≤ c ∧ c < 8 ∧ 0 ≤ B ∧ B ≤ 900000) ∧ LN n S (-1) sid hc hr ∧ PU n c hc hr ∧ PH n hc hr ∧ PL hc hr ∧ PTr n hc hr
theorem zSum_op {n : Nat} {S e : Int} {sid : Int → Int} {hc hr : zH} (K : LN n S e sid hc hr) : 0 ≤ zSum (gt hr 80 0) n ∧ zSum (gt hr 80 0) n ≤ n := by
  have e1 : zSum (gt hr 80 0) n = zSum (fun j => if gt hr 80 0 j = 1 then 1 else 0) n := zSum_cg n fun j a b => by
    rcases (K.1 j a b).2.1.2.1 with z | z <;> rw [z] <;> decide
  rw [e1]
  exact ⟨zSum_ge (fun j => by split <;> decide) n, zSum_le (fun j => by split <;> decide) n⟩
theorem zSum_lt {f g : Int → Int} {l : Int} (l0 : 0 ≤ l) : ∀ (n : Nat), l < n → (∀ j : Int, 0 ≤ j → j < n → g j ≤ f j) → g l + 1 ≤ f l → zSum g n + 1 ≤ zSum f n
  | 0, h, _, _ => by omega
  | n + 1, h, H, L => by
    have e1 : zSum f (n + 1) = zSum f n + f n := rfl
    have e2 : zSum g (n + 1) = zSum g n + g n := rfl
    rw [e1, e2]
    have hn := H n (Int.natCast_nonneg n) (by omega)
    by_cases c : l = n
    · have : ∀ m : Nat, m ≤ n → zSum g m ≤ zSum f m := fun m => by
        induction m with
        | zero => intro _; exact Int.le_refl _
        | succ m ih =>
          intro hm
          have e1 : zSum f (m + 1) = zSum f m + f m := rfl
          have e2 : zSum g (m + 1) = zSum g m + g m := rfl
          have := ih (by omega)
          have := H m (Int.natCast_nonneg m) (by omega)
          omega
      have := this n (Nat.le_refl _)
      rw [c] at L
      omega
    · have := zSum_lt l0 n (by omega) (fun j a b => H j a (by omega)) L
      omega
/-- what is held is no more than PARTS are -/
theorem PH.le {n : Nat} {hc hr : zH} (K : PH n hc hr) (lm0 : 0 ≤ gt hr 12 0 62) (P : RP hc hr) : 0 ≤ gt hc 3 0 5 ∧ gt hc 3 0 5 ≤ gt hr 12 0 0 ∧ gt hr 12 0 62 ≤ gt hc 3 0 5 := by
  obtain ⟨k1, k2, k3, k4⟩ := K
  obtain ⟨p1, p2, p3, p4⟩ := P
  have z0 : 0 ≤ zLc hr n := zSum_ge (fun j => (zLg_b hr j).1) n
  have h0 : 0 ≤ gt hc 3 0 5 := by omega
  have := zPig (lp := gt hc 29 0) (m := (gt hc 3 0 5).toNat) (n := (gt hr 12 0 0).toNat) (fun i a b => by
    have := k3 i a (by omega)
    exact ⟨this.1, by omega⟩) (fun i j a b c => k4 i j a b (by omega))
  omega
abbrev kGc : List Nat := [28, 29, 30, 31, 32, 33, 36, 37, 38]
abbrev mGc : List (Nat × Int) := [(3, 3), (3, 5), (5, 3), (5, 4), (6, 3), (7, 3), (4, 2), (4, 4), (4, 5), (4, 6), (4, 7), (9, 2)]
abbrev kGr : List Nat := [52, 53, 54, 55, 56, 57, 58, 59, 60, 61, 80]
abbrev mGr : List (Nat × Int) := [(12, 4), (12, 6), (12, 12)]
theorem m_gv {B : Int} {n : Nat} {S c l how : Int} {sid : Int → Int} {hc hr : zH} (X : CR B n S c sid hc hr) (l0 : 0 ≤ l) (l1 : l < n) (op : gt hr 80 0 l = 1) :
    ∃ r hc' hr', F_X8_giveUp 0 l how hc = some (r, hc') ∧ F_X12_giveBack 0 l how hr = some (r, hr') ∧ (r = 0 ∨ r = 1) ∧ zFx kGc mGc hc hc' ∧ FrN hc hc' ∧ zFx kGr mGr hr hr' ∧ FrN hr hr' ∧ CR B n S c sid hc' hr' ∧ gt hr' 80 0 l = 0 ∧ zSum (gt hr' 80 0) n + 1 ≤ zSum (gt hr 80 0) n := by
  obtain ⟨a1, a2, a3, a4, a5, a6, a7, a8, a9, a10, ⟨b1, b2, b3, b4, b5, b6, b7, b8, b9, b10⟩, K, U, H, L, T⟩ := X
  obtain ⟨hc1, hr1, e1, e2, e3, e4, e5, e6, e7, e8, e9⟩ := m_close (how := how) b4 K a2 b2 l0 l1 op
  have o1 : ∀ k : Int, 0 ≤ k → k < n → gt hr1 80 0 k ≤ gt hr 80 0 k := fun k x y => by
    rcases e9 k with z | z
    · rw [z]; exact Int.le_refl _
    · rw [z.2.2.1, z.2.2.2.1]; decide
  have o2 : zSum (gt hr1 80 0) n + 1 ≤ zSum (gt hr 80 0) n := zSum_lt l0 n l1 o1 (by rw [e8, op]; decide)
  obtain ⟨⟨m1, m2, m3, m4, m5, m6, m7, m8⟩, _, _⟩ := K.1 l l0 l1
  have f1 : ∀ i, gt hc1 4 i 0 = gt hc 4 i 0 ∧ gt hc1 4 i 1 = gt hc 4 i 1 := fun i => ⟨e3 4 0 (by simp) (by decide) i, e3 4 1 (by simp) (by decide) i⟩
  have c1 : PIc hc1 := a1.fr e3 rfl
  have c2 : PIr hr1 := a2.fr e5 rfl
  have c3 : ST hc1 := a3.fr e3 rfl
  have c4 : SC hc1 := a4.fr e3 rfl e4.1
  have c5 : RP hc1 hr1 := a5.fr e3 rfl e5 rfl
  have c6 : RC hc1 hr1 := a6.fr e3 rfl e5 rfl
  have c7 : RPl hc1 hr1 := a7.fr e3 rfl e5 rfl
  have c8 : RLg (B + n - zSum (gt hr 80 0) n) hc1 hr1 := a8.fr e3 rfl e5 rfl
  have c9 : RCh hc1 hr1 := a9.fr e3 rfl e5 rfl
  have c10 : RSx hc1 hr1 := a10.fr e3 rfl e5 rfl
  have g1 : ∀ (q : Nat) (j : Int), q ≠ 80 → gt hr1 q 0 j = gt hr q 0 j := fun q j z => e5 q j (by simpa using z) (by simp) 0
  have g1f : ∀ (q : Nat), q ≠ 80 → gt hr1 q 0 = gt hr q 0 := fun q z => by funext j; exact g1 q j z
  have hq : gt hc1 8 0 9 = gt hc 8 0 9 ∧ gt hc1 8 0 11 = gt hc 8 0 11 := ⟨e3 8 9 (by simp) (by decide) 0, e3 8 11 (by simp) (by decide) 0⟩
  obtain ⟨zb0, zb1⟩ := zSum_op K
  obtain ⟨zc0, zc1⟩ := zSum_op e7
  by_cases s2 : gt hr 76 0 l = 2
  · rw [if_pos s2] at e2
    have EU : ∀ k, zU n hr1 k ↔ zU n hr k := fun k => by
      unfold zU
      rw [g1 76 k (by decide)]
      rcases e9 k with z | z
      · rw [z]
      · have s : gt hr 76 0 k = 2 := by
          rcases z.2.2.2.2 with y | y
          · rw [y]; exact s2
          · exact y
        rw [s]
        simp
    have EG : ∀ k, zLg hr1 k = zLg hr k := fun k => by
      unfold zLg
      rw [g1 76 k (by decide)]
      rcases e9 k with z | z
      · rw [z]
      · have s : gt hr 76 0 k = 2 := by
          rcases z.2.2.2.2 with y | y
          · rw [y]; exact s2
          · exact y
        rw [s]
        simp
    have EC : ∀ m, zLc hr1 m = zLc hr m := fun m => zLc_cg (fun k _ => EG k) m
    refine ⟨0, hc1, hr1, ?_, e2, Or.inl rfl, e3.wk rfl rfl, e4, e5.wk rfl rfl, e6, ⟨c1, c2, c3, c4, c5, c6, c7, c8.up (by omega), c9, c10, ⟨by rw [hq.1]; exact b1, by rw [g1 12 34 (by decide)]; exact b2, by rw [g1 12 56 (by decide)]; exact b3, b4, by rw [hq.2]; exact b5, by rw [g1 12 61 (by decide)]; exact b6, b7, b8, b9, b10⟩, e7, ?_, ?_, ?_, ?_⟩, e8, o2⟩
    · rw [e1]
      unfold F_X8_giveUp_36
      rw [if_pos l0, (f1 l).2, m2, if_pos s2]
    · unfold PU
      simp only [EU, g1 _ _ (show (52 : Nat) ≠ 80 by decide), g1 _ _ (show (75 : Nat) ≠ 80 by decide), g1 _ _ (show (12 : Nat) ≠ 80 by decide), g1 _ _ (show (89 : Nat) ≠ 80 by decide), e3 6 4 (by simp) (by decide)]
      exact U
    · obtain ⟨h1, h2, h3, h4⟩ := H
      unfold PH
      simp only [EU, EC, g1 _ _ (show (52 : Nat) ≠ 80 by decide), g1 _ _ (show (75 : Nat) ≠ 80 by decide), g1 _ _ (show (76 : Nat) ≠ 80 by decide), g1 _ _ (show (12 : Nat) ≠ 80 by decide), e3 3 5 (by simp) (by decide), e3 29 _ (by simp) (by simp)]
      refine ⟨h1, fun k kn q1 q2 => h2 k kn ?_ q2, h3, h4⟩
      have u : zU n hr1 k := ⟨Int.natCast_nonneg k, by omega, q1, by rw [g1 76 k (by decide), q2]; decide⟩
      exact ((EU k).mp u).2.2.1
    · exact L.rm (p := -1) (g1 12 62 (by decide)) (g1 12 0 (by decide)) (g1f 89 (by decide)) (g1f 90 (by decide)) (g1f 91 (by decide)) (g1f 92 (by decide)) (fun q => ⟨e3 6 4 (by simp) (by decide) q, e3 6 7 (by simp) (by decide) q⟩) (by funext i j; exact e3 34 j (by simp) (by simp) i) (by funext i j; exact e3 35 j (by simp) (by simp) i) (fun k _ _ => e3 29 k (by simp) (by simp) 0) (fun i x y => by have := (L.2.1 i x y).2.1; omega) (fun q _ => g1 52 q (by decide))
    · exact T.rm (fun k => (EU k).mp) (g1f 75 (by decide)) (g1f 76 (by decide)) (g1f 81 (by decide)) (g1f 82 (by decide)) (fun q => e3 6 7 (by simp) (by decide) q) (by funext i j; exact e3 34 j (by simp) (by simp) i) (by funext i j; exact e3 35 j (by simp) (by simp) i)
  · rw [if_neg s2] at e2
    have Ul : zU n hr l := ⟨l0, l1, op, s2⟩
    obtain ⟨u1, u2, u3⟩ := U.1 l Ul
    have EU : ∀ k, zU n hr1 k ↔ (zU n hr k ∧ k ≠ l) := fun k => by
      unfold zU
      rw [g1 76 k (by decide)]
      by_cases kl : k = l
      · rw [kl, e8]; simp
      · rcases e9 k with z | z
        · rw [z]; simp [kl]
        · have s : gt hr 76 0 k = 2 := by
            rcases z.2.2.2.2 with y | y
            · exact absurd y kl
            · exact y
          rw [s]; simp
    have EG : ∀ k, zLg hr1 k = if k = l then 0 else zLg hr k := fun k => by
      unfold zLg
      rw [g1 76 k (by decide)]
      by_cases kl : k = l
      · rw [if_pos kl, kl, e8]; simp
      · rw [if_neg kl]
        rcases e9 k with z | z
        · rw [z]
        · have s : gt hr 76 0 k = 2 := by
            rcases z.2.2.2.2 with y | y
            · exact absurd y kl
            · exact y
          rw [s]; simp
    obtain ⟨p, hp⟩ : ∃ p, p = gt hr 75 0 l := ⟨_, rfl⟩
    obtain ⟨ln, hln⟩ : ∃ ln : Nat, (ln : Int) = l := ⟨l.toNat, by omega⟩
    obtain ⟨hh0, hh1, hh2⟩ := H.le L.1 a5
    have p60 := a5.2.2.1
    have p61 := a5.1
    obtain ⟨i0, hi⟩ : ∃ i0, (gt hr 76 0 l = 1 ∧ i0 = gt hr 12 0 62 + zLc hr ln) ∨ (gt hr 76 0 l ≠ 1 ∧ i0 = 60) := by
      by_cases z : gt hr 76 0 l = 1
      · exact ⟨_, Or.inl ⟨z, rfl⟩⟩
      · exact ⟨_, Or.inr ⟨z, rfl⟩⟩
    have zl0 : 0 ≤ zLc hr ln := zSum_ge (fun j => (zLg_b hr j).1) ln
    have i00 : 0 ≤ i0 ∧ gt hr 12 0 62 ≤ i0 := by
      have := L.1
      rcases hi with ⟨_, z⟩ | ⟨_, z⟩ <;> omega
    have HP : ∀ k, 0 ≤ k → k < gt hc 3 0 5 → (gt hc 29 0 k = p ↔ k = i0) := fun k x y => by
      obtain ⟨h1, h2, h3, h4⟩ := H
      rcases hi with ⟨z1, z2⟩ | ⟨z1, z2⟩
      · have lt : zLc hr ln + 1 ≤ zLc hr n := zLc_lt (by rw [hln]; exact op) (by rw [hln]; exact z1) (by omega)
        have q := h2 ln (by omega) (by rw [hln]; exact op) (by rw [hln]; exact z1)
        rw [hln, ← z2, ← hp] at q
        constructor
        · intro w
          refine Classical.byContradiction fun v => ?_
          by_cases t : k < i0
          · exact h4 k i0 x t (by omega) (by rw [w, q])
          · exact h4 i0 k (by omega) (by omega) y (by rw [w, q])
        · intro w; rw [w]; exact q
      · constructor
        · intro w
          exact absurd w (by rw [hp]; exact (h3 k x y).2.2.2 l Ul (by omega))
        · intro w; omega
    obtain ⟨r, hc', hr', t1, t2, t3, t4, t5, t6, t7, t8, t9, t10, t11, t12, t13, t14, t15, t16⟩ := tb_core (how := how) (p := p) (cust := c) (i0 := i0) c1 c2 c5 c6 c7 c8 c9 (by omega) (by rw [hp]; exact m4) (by rw [g1 12 0 (by decide), hp]; exact m5)
      (by rw [e3 6 0 (by simp) (by decide) p]; exact (a4.2.2.2.1 p (by rw [hp]; exact m4) (by rw [hp, ← p61]; exact m5)).2.1) (by rw [g1 52 p (by decide), hp]; exact u1) (by rw [e3 6 4 (by simp) (by decide) p, hp]; exact u2) ⟨b7, b8⟩ i00.1 (by rw [e3 3 5 (by simp) (by decide) 0]; omega) (fun k x y => by
        rw [e3 3 5 (by simp) (by decide) 0] at y
        rw [e3 29 k (by simp) (by simp) 0]; exact HP k x y)
    have xc : zFx kGc mGc hc hc' := (e3.wk rfl rfl).tr (t4.wk rfl rfl)
    have xr : zFx kGr mGr hr hr' := (e5.wk rfl rfl).tr (t5.wk rfl rfl)
    have y80 : gt hr' 80 0 = gt hr1 80 0 := by funext j; exact t5 80 j (by decide) (by simp) 0
    have y76 : ∀ k, gt hr' 76 0 k = gt hr 76 0 k := fun k => xr 76 k (by decide) (by simp) 0
    have EU' : ∀ k, zU n hr' k ↔ (zU n hr k ∧ k ≠ l) := fun k => by
      rw [← EU k]
      unfold zU
      rw [y80, y76, g1 76 k (by decide)]
    have EG' : ∀ k, zLg hr' k = if k = l then 0 else zLg hr k := fun k => by
      rw [← EG k]
      unfold zLg
      rw [y80, y76, g1 76 k (by decide)]
    have so : ∀ q, q ≠ gt hr 75 0 l → gt hr' 52 0 q = gt hr 52 0 q := fun q z => by rw [t13 q (by rw [hp]; exact z), g1 52 q (by decide)]
    have y62 : gt hr' 12 0 62 = gt hr 12 0 62 := xr 12 62 (by decide) (by decide) 0
    have y0 : gt hr' 12 0 0 = gt hr 12 0 0 := xr 12 0 (by decide) (by decide) 0
    have fr : ∀ q : Nat, kGr.contains q = false → q ≠ 12 → gt hr' q 0 = gt hr q 0 := fun q z z2 => by
      funext j
      refine xr q j (by simpa using z) (fun w => ?_) 0
      simp [z2] at w
    have h5 : gt hc' 3 0 5 = (if i0 < gt hc 3 0 5 then gt hc 3 0 5 - 1 else gt hc 3 0 5) := by rw [t15, e3 3 5 (by simp) (by decide) 0]
    have h29 : ∀ k, 0 ≤ k → k < gt hc' 3 0 5 → gt hc' 29 0 k = if k < i0 then gt hc 29 0 k else gt hc 29 0 (k + 1) := fun k x y => by rw [t16 k x y, e3 29 k (by simp) (by simp) 0, e3 29 (k + 1) (by simp) (by simp) 0]
    have x34 : gt hc' 34 = gt hc 34 := by funext i j; exact xc 34 j (by decide) (by simp) i
    have x35 : gt hc' 35 = gt hc 35 := by funext i j; exact xc 35 j (by decide) (by simp) i
    have e9' : LN n S (-1) sid hc' hr' := e7.fr t4 rfl t5 rfl
    refine ⟨r, hc', hr', ?_, ?_, t3, xc, e4.tr t6, xr, e6.tr t7, ⟨c1.fr t4 rfl, c2.fr t5 rfl, c3.fr t4 rfl, c4.fr t4 rfl t6.1, t8, t9, t10, ?_, t12, c10.fr t4 rfl t5 rfl, ⟨by rw [xc 8 9 (by decide) (by decide) 0]; exact b1, by rw [xr 12 34 (by decide) (by decide) 0]; exact b2, by rw [xr 12 56 (by decide) (by decide) 0]; exact b3, b4, by rw [xc 8 11 (by decide) (by decide) 0]; exact b5, by rw [xr 12 61 (by decide) (by decide) 0]; exact b6, b7, b8, b9, b10⟩, e9', ?_, ?_, ?_, ?_⟩, by rw [y80]; exact e8, by rw [y80]; exact o2⟩
    · rw [e1]
      unfold F_X8_giveUp_36
      have q1 : ¬ gt hc1 4 l 1 = 2 := by rw [(f1 l).2, m2]; exact s2
      have q2 : gt hc1 4 l 0 = p := by rw [(f1 l).1, m1, hp]
      have q3 : ¬ p = -1 := by rw [hp]; omega
      rw [if_pos l0, if_neg q1, q2, if_neg q3, if_pos (by decide), pc_8_0 c1, if_pos (by decide), t1]
      rcases t3 with z | z <;> rw [z] <;> rfl
    · rw [e2, b6, ← hp, t2]
      rcases t3 with z | z <;> rw [z] <;> rfl
    · rw [y80]; exact t11.up (by omega)
    · exact U.rm Ul EU' (fun k => by rw [fr 75 rfl (by decide)]) y62 y0 (fun k => by rw [fr 89 rfl (by decide)]) (fun q => xc 6 4 (by decide) (by decide) q) so (by
        rw [← hp]
        rcases t14 with z | z <;> rw [z] <;> decide)
    · refine H.rm (l := ln) (i0 := i0) L.1 (by rw [hln]; exact Ul) (by rw [hln]; exact EU') (fun k => by rw [fr 75 rfl (by decide)]) y76 y62 y0 ?_ (fun k _ => by rw [hln]; exact EG' k) (by rw [hln]; exact so) (by rw [hln, ← hp]; exact HP) h5 h29
      rw [hln]
      rcases hi with z | z
      · exact Or.inl z
      · exact Or.inr ⟨z.1, by omega⟩
    · refine L.rm (p := p) y62 y0 (fr 89 rfl (by decide)) (fr 90 rfl (by decide)) (fr 91 rfl (by decide)) (fr 92 rfl (by decide)) (fun q => ⟨xc 6 4 (by decide) (by decide) q, xc 6 7 (by decide) (by decide) q⟩) x34 x35 (fun k x y => ?_) (fun i x y => by rw [hp]; exact u3 i x y) (by rw [hp]; exact so)
      have hk : k < gt hc' 3 0 5 := by
        rw [h5]
        split <;> omega
      rw [h29 k x hk, if_pos (by omega)]
    · exact T.rm (fun k z => ((EU' k).mp z).1) (fr 75 rfl (by decide)) (fr 76 rfl (by decide)) (fr 81 rfl (by decide)) (fr 82 rfl (by decide)) (fun q => xc 6 7 (by decide) (by decide) q) x34 x35

/-! what a row of LINES is worth: the fault, its line, the BLOCKS that are begun (the line of the beginning, the latest mark), the innermost first -/
abbrev zK : Type := List (Int × Int)
abbrev zJ : Type := Int × (Int × zK)
abbrev jft (x largest : Int) : Prop := largest = -1 ∨ (0 ≤ x ∧ x ≤ largest)
/-- an op, an a or a b that may not be -/
abbrev jwr (op a b : Int) : Prop := ¬ (0 ≤ op ∧ op < 17 ∧ jft a (zA100.getD op.toNat 0) ∧ jft b (zA101.getD op.toNat 0))
def jbad (ops as bs : Int → Int) (k : Int) (s : zK) : Int :=
  if jwr (ops k) (as k) (bs k) then 1
  else if ops k = 16 then (if s = [] then 2 else 0)
  else if ops k = 14 ∨ ops k = 15 then (match s with | [] => 2 | e :: _ => if ops e.1 = 13 ∧ ops e.2 ≠ 15 then 0 else 2)
  else if ops k = 11 ∨ ops k = 12 ∨ ops k = 13 then (if s.length < 8 then 0 else 3)
  else if ops k = 10 then (if ∃ e ∈ s, ops e.1 = 11 then 0 else 4)
  else 0
def jnx (ops : Int → Int) (k : Int) (s : zK) : zK :=
  if ops k = 16 then s.tail
  else if ops k = 14 ∨ ops k = 15 then (match s with | [] => [] | e :: t => (e.1, k) :: t)
  else if ops k = 11 ∨ ops k = 12 ∨ ops k = 13 then (k, k) :: s
  else s
/-- behind k LINES -/
def jst (ops as bs : Int → Int) : Nat → zJ
  | 0 => (0, (0, []))
  | k + 1 =>
    if (jst ops as bs k).1 ≠ 0 then jst ops as bs k
    else if jbad ops as bs k (jst ops as bs k).2.2 ≠ 0 then (jbad ops as bs k (jst ops as bs k).2.2, ((k : Int), (jst ops as bs k).2.2))
    else (0, (0, jnx ops k (jst ops as bs k).2.2))
abbrev jf (ops as bs : Int → Int) (k : Nat) : Int := (jst ops as bs k).1
abbrev jl (ops as bs : Int → Int) (k : Nat) : Int := (jst ops as bs k).2.1
abbrev js (ops as bs : Int → Int) (k : Nat) : zK := (jst ops as bs k).2.2
/-- the class's row of BLOCKS that are begun -/
def SBk (h : zH) (i : Int) : zK → Prop
  | [] => True
  | e :: t => gt h 47 i (t.length : Int) = e.1 ∧ gt h 48 i (t.length : Int) = e.2 ∧ SBk h i t
/-- what links a mark to the next -/
def NXk (h : zH) (i : Int) (ops as bs : Int → Int) (n : Nat) : Prop := ∀ (q : Nat), q < n → jf ops as bs (q + 1) = 0 → (ops q = 14 ∨ ops q = 15 ∨ ops q = 16) → ∀ (e : Int × Int) (t : zK), js ops as bs q = e :: t → gt h 46 i e.2 = q
def JSc (h : zH) (i : Int) : Prop :=
  gt h 10 i 5 = jf (gt h 43 i) (gt h 44 i) (gt h 45 i) (gt h 10 i 4).toNat ∧
  (gt h 10 i 5 ≠ 0 → gt h 10 i 6 = jl (gt h 43 i) (gt h 44 i) (gt h 45 i) (gt h 10 i 4).toNat) ∧
  gt h 10 i 9 = ((js (gt h 43 i) (gt h 44 i) (gt h 45 i) (gt h 10 i 4).toNat).length : Int) ∧
  SBk h i (js (gt h 43 i) (gt h 44 i) (gt h 45 i) (gt h 10 i 4).toNat) ∧
  NXk h i (gt h 43 i) (gt h 44 i) (gt h 45 i) (gt h 10 i 4).toNat
/-- ACTS -/
def RSx (hc hr : zH) : Prop := gt hr 12 0 16 = gt hc 11 0 2 ∧ 0 ≤ gt hc 11 0 2 ∧ gt hc 11 0 2 ≤ 12 ∧
  ∀ n : Int, 0 ≤ n → n < gt hc 11 0 2 → gt hc 10 (n + 1) 4 = gt hr 62 0 n ∧ 0 ≤ gt hr 62 0 n ∧ gt hr 62 0 n ≤ 40 ∧
    (∀ k : Int, 0 ≤ k → k < gt hr 62 0 n → gt hc 43 (n + 1) k = gt hr 63 0 (40 * n + k) ∧ gt hc 44 (n + 1) k = gt hr 64 0 (40 * n + k) ∧ gt hc 45 (n + 1) k = gt hr 65 0 (40 * n + k)) ∧ JSc hc (n + 1)
abbrev tRSxc (c : Nat) (j : Int) : Prop := (c = 11 ∧ j = 2) ∨ (c = 10 ∧ (j = 4 ∨ j = 5 ∨ j = 6 ∨ j = 9)) ∨ (43 ≤ c ∧ c ≤ 48)
abbrev tRSxr (c : Nat) (j : Int) : Prop := (c = 12 ∧ j = 16) ∨ (62 ≤ c ∧ c ≤ 65)
theorem SBk.cg {h h' : zH} {i : Int} (e1 : gt h' 47 = gt h 47) (e2 : gt h' 48 = gt h 48) : ∀ {s : zK}, SBk h i s → SBk h' i s
  | [], _ => trivial
  | e :: t, k => ⟨by rw [e1]; exact k.1, by rw [e2]; exact k.2.1, SBk.cg e1 e2 k.2.2⟩
theorem RSx.cg {hc hc' hr hr' : zH} (ehc : ∀ c i j, tRSxc c j → gt hc' c i j = gt hc c i j) (ehr : ∀ c i j, tRSxr c j → gt hr' c i j = gt hr c i j) (k : RSx hc hr) : RSx hc' hr' := by
  have f : ∀ c : Nat, 43 ≤ c → c ≤ 48 → gt hc' c = gt hc c := fun c a b => by funext i j; exact ehc c i j (Or.inr (Or.inr ⟨a, b⟩))
  have g : ∀ c : Nat, 62 ≤ c → c ≤ 65 → gt hr' c = gt hr c := fun c a b => by funext i j; exact ehr c i j (Or.inr ⟨a, b⟩)
  have q : ∀ i, gt hc' 10 i 4 = gt hc 10 i 4 ∧ gt hc' 10 i 5 = gt hc 10 i 5 ∧ gt hc' 10 i 6 = gt hc 10 i 6 ∧ gt hc' 10 i 9 = gt hc 10 i 9 := fun i => ⟨ehc 10 i 4 (by decide), ehc 10 i 5 (by decide), ehc 10 i 6 (by decide), ehc 10 i 9 (by decide)⟩
  obtain ⟨k1, k2, k3, k4⟩ := k
  unfold RSx
  rw [ehc 11 0 2 (by decide), ehr 12 0 16 (by decide), g 62 (by decide) (by decide), g 63 (by decide) (by decide), g 64 (by decide) (by decide), g 65 (by decide) (by decide), f 43 (by decide) (by decide), f 44 (by decide) (by decide), f 45 (by decide) (by decide)]
  refine ⟨k1, k2, k3, fun n a b => ?_⟩
  obtain ⟨m1, m2, m3, m4, m5⟩ := k4 n a b
  refine ⟨by rw [(q _).1]; exact m1, m2, m3, m4, ?_⟩
  obtain ⟨x1, x2, x3, x4, x5⟩ := m5
  unfold JSc NXk
  rw [(q _).1, (q _).2.1, (q _).2.2.1, (q _).2.2.2, f 43 (by decide) (by decide), f 44 (by decide) (by decide), f 45 (by decide) (by decide), f 46 (by decide) (by decide)]
  exact ⟨x1, x2, x3, x4.cg (f 47 (by decide) (by decide)) (f 48 (by decide) (by decide)), x5⟩
theorem RSx.fr {lc lr : List Nat} {mc mr : List (Nat × Int)} {hc hc' hr hr' : zH} (xc : zFx lc mc hc hc') (dc : zdj [43, 44, 45, 46, 47, 48] [(10, 4), (10, 5), (10, 6), (10, 9), (11, 2)] lc mc = true) (xr : zFx lr mr hr hr') (dr : zdj [62, 63, 64, 65] [(12, 16)] lr mr = true) (k : RSx hc hr) : RSx hc' hr' :=
  RSx.cg (fun c i j t => by
    rcases t with ⟨rfl, rfl⟩ | ⟨rfl, rfl | rfl | rfl | rfl⟩ | ⟨a, b⟩
    · exact zdf2 dc xc (by decide) i
    · exact zdf2 dc xc (by decide) i
    · exact zdf2 dc xc (by decide) i
    · exact zdf2 dc xc (by decide) i
    · exact zdf2 dc xc (by decide) i
    · rcases (show c = 43 ∨ c = 44 ∨ c = 45 ∨ c = 46 ∨ c = 47 ∨ c = 48 by omega) with rfl | rfl | rfl | rfl | rfl | rfl <;> exact zdk dc xc (by decide) i j)
    (fun c i j t => by
    rcases t with ⟨rfl, rfl⟩ | ⟨a, b⟩
    · exact zdf2 dr xr (by decide) i
    · rcases (show c = 62 ∨ c = 63 ∨ c = 64 ∨ c = 65 by omega) with rfl | rfl | rfl | rfl <;> exact zdk dr xr (by decide) i j) k
/-- the whole relation between two calls; N calls so far -/
def Rel (N : Int) (hc hr : zH) : Prop := PIc hc ∧ PIr hr ∧ ST hc ∧ SC hc ∧ RP hc hr ∧ RC hc hr ∧ RPl hc hr ∧ RLg (200 * N) hc hr ∧ RCh hc hr ∧ RSx hc hr ∧ RRn hc hr ∧ RK hc hr

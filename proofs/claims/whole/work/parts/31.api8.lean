/-- the reference's two rows beside the BLOCKS that are begun -/
def JO (h : zH) (ops : Int → Int) : zK → Prop
  | [] => True
  | e :: t => gt h 66 0 (t.length : Int) = ops e.1 ∧ gt h 67 0 (t.length : Int) = (if ops e.2 = 15 then 1 else 0) ∧ JO h ops t
theorem JO.ci {h h' : zH} {ops : Int → Int} {s : zK} (e : ∀ j : Int, 0 ≤ j → j < s.length → gt h' 66 0 j = gt h 66 0 j ∧ gt h' 67 0 j = gt h 67 0 j) (k : JO h ops s) : JO h' ops s := by
  induction s with
  | nil => trivial
  | cons x t ih =>
    have q := e t.length (Int.natCast_nonneg _) (by simp; omega)
    exact ⟨by rw [q.1]; exact k.1, by rw [q.2]; exact k.2.1, ih (fun j a b => e j a (by simp; omega)) k.2.2⟩
theorem JO.at {h : zH} {ops : Int → Int} : ∀ {s : zK}, JO h ops s → ∀ j : Int, 0 ≤ j → j < s.length → ∃ e ∈ s, gt h 66 0 j = ops e.1
  | [], _, j, a, b => by simp at b; omega
  | x :: t, k, j, a, b => by
    by_cases c : j = t.length
    · rw [c]; exact ⟨x, List.mem_cons_self .., k.1⟩
    · obtain ⟨e, m, z⟩ := k.2.2.at j a (by simp at b; omega)
      exact ⟨e, List.mem_cons_of_mem _ m, z⟩
theorem JO.of {h : zH} {ops : Int → Int} : ∀ {s : zK}, JO h ops s → ∀ e ∈ s, ∃ j : Int, 0 ≤ j ∧ j < s.length ∧ gt h 66 0 j = ops e.1
  | [], _, e, m => by cases m
  | x :: t, k, e, m => by
    rcases List.mem_cons.mp m with q | q
    · rw [q]; exact ⟨t.length, Int.natCast_nonneg _, by simp; omega, k.1⟩
    · obtain ⟨j, a, b, z⟩ := k.2.2.of e q
      exact ⟨j, a, by simp; omega, z⟩
theorem r_268 {ag : Int → Int → Int → Int → zH → zO} {a l2 l3 : Int} {h : zH} (hp : PIr h) (h2 : l2 ≤ 50) {v : Int} : ∀ (n : Nat) (l6 l7 : Int), 0 ≤ l7 → l7 ≤ l2 → l2 - l7 < n → ((l6 ≠ 0 ∨ ∃ j, l7 ≤ j ∧ j < l2 ∧ gt h 66 0 j = 11) → v = 0) → (¬ (l6 ≠ 0 ∨ ∃ j, l7 ≤ j ∧ j < l2 ∧ gt h 66 0 j = 11) → v = 4) → F_X12_judge_268 ag n 0 a l2 l3 l6 l7 h = F_X12_judge_316 ag 0 a l2 l3 v h
  | 0, l6, l7, h0, h1, hn, _, _ => by omega
  | n + 1, l6, l7, h0, h1, hn, hv, hw => by
    show F_X12_judge_268b ag (F_X12_judge_268 ag n) 0 a l2 l3 l6 l7 h = _
    unfold F_X12_judge_268b F_X12_judge_291
    by_cases c : l2 ≤ l7
    · rw [if_pos c]
      by_cases d : l6 = 0
      · rw [if_pos d, hw]
        rintro (z | ⟨j, q1, q2, _⟩)
        · exact z d
        · omega
      · rw [if_neg d, hv (Or.inl d)]
    · rw [if_neg c]
      have c' : l7 < l2 := by omega
      rw [wI_eq (z := l7 + 1) ⟨by omega, by omega⟩]
      by_cases d : l6 = 0
      · by_cases w : gt h 66 0 l7 = 11
        · have v0 : v = 0 := hv (Or.inr ⟨l7, Int.le_refl _, c', w⟩)
          rw [if_neg (by simpa using d), if_pos (by decide), pr_23 hp, if_pos (by decide), if_pos (by omega), if_neg (by simpa using w)]
          exact r_268 hp h2 n 1 (l7 + 1) (by omega) (by omega) (by omega) (fun _ => v0) (fun z => absurd (Or.inl (by decide)) z)
        · rw [if_neg (by simpa using d), if_pos (by decide), pr_23 hp, if_pos (by decide), if_pos (by omega), if_pos w]
          have e : ((0 : Int) ≠ 0 ∨ ∃ j, l7 + 1 ≤ j ∧ j < l2 ∧ gt h 66 0 j = 11) ↔ (l6 ≠ 0 ∨ ∃ j, l7 ≤ j ∧ j < l2 ∧ gt h 66 0 j = 11) := by
            constructor
            · rintro (z | ⟨j, q1, q2, q3⟩)
              · exact absurd rfl z
              · exact Or.inr ⟨j, by omega, q2, q3⟩
            · rintro (z | ⟨j, q1, q2, q3⟩)
              · exact absurd d z
              · refine Or.inr ⟨j, ?_, q2, q3⟩
                by_cases y : j = l7
                · rw [y] at q3; exact absurd q3 w
                · omega
          exact r_268 hp h2 n 0 (l7 + 1) (by omega) (by omega) (by omega) (fun z => hv (e.mp z)) (fun z => hw (fun y => z (e.mpr y)))
      · rw [if_pos d]
        exact r_268 hp h2 n 1 (l7 + 1) (by omega) (by omega) (by omega) (fun _ => hv (Or.inl d)) (fun z => absurd (Or.inl (by decide)) z)
/-- a step of the reference's judging -/
theorem r_jstep {ag : Int → Int → Int → Int → zH → zO} {a : Int} {k : Nat} {h : zH} {ops as bs : Int → Int} {s : zK} (hp : PIr h) (a0 : 0 ≤ a) (a1 : a < 12) (hk : (k : Int) < gt h 62 0 a) (hk4 : gt h 62 0 a ≤ 40) (hf : gt h 12 0 21 = 0)
    (e1 : gt h 63 0 (40 * a + k) = ops k) (e2 : gt h 64 0 (40 * a + k) = as k) (e3 : gt h 65 0 (40 * a + k) = bs k) (sl : s.length ≤ 8) (O : JO h ops s) :
    ∃ l2' h', F_X12_judge_14b ag 0 a s.length k h = F_X12_judge_316 ag 0 a l2' k (jbad ops as bs k s) h' ∧ zFx [66, 67] [] h h' ∧ FrN h h' ∧ (jbad ops as bs k s = 0 → l2' = ((jnx ops k s).length : Int) ∧ JO h' ops (jnx ops k s)) := by
  have ei : wI (wI (40 * a) + k) = 40 * a + k := by rw [wI_eq (z := 40 * a) ⟨by omega, by omega⟩, wI_eq ⟨by omega, by omega⟩]
  have eb : 0 ≤ 40 * a + (k : Int) ∧ 40 * a + (k : Int) < 480 := by omega
  have hk2 : ¬ gt h 62 0 a ≤ k := by omega
  have q0 : F_X12_judge_14b ag 0 a s.length k h = (if jwr (ops k) (as k) (bs k) then F_X12_judge_316 ag 0 a s.length k 1 h else if ops k ≠ 16 then F_X12_judge_120 ag 0 a s.length k (ops k) 0 h else if (s.length : Int) ≠ 0 then F_X12_judge_316 ag 0 a (wI (s.length - 1)) k 0 h else F_X12_judge_316 ag 0 a (wI (s.length - 0)) k 2 h) := by
    unfold F_X12_judge_14b
    simp only [pr_17 hp, pr_18 hp, pr_19 hp, pr_20 hp, hf, s_isWrong, ei, e1, e2, e3, zb]
    simp only [if_neg hk2, if_pos (And.intro a0 a1), if_pos eb]
    by_cases w : jwr (ops k) (as k) (bs k)
    · rw [if_pos w, if_pos w]
      simp [F_X12_judge_120, F_X12_judge_198, F_X12_judge_250]
    · rw [if_neg w, if_neg w]
      simp
  rw [q0]
  unfold jbad
  by_cases w : jwr (ops k) (as k) (bs k)
  · rw [if_pos w, if_pos w]
    exact ⟨_, h, rfl, zFx.rf h, frrN h, fun z => by cases z⟩
  rw [if_neg w, if_neg w]
  by_cases o16 : ops k = 16
  · rw [if_neg (by simpa using o16), if_pos o16]
    cases s with
    | nil => exact ⟨_, h, rfl, zFx.rf h, frrN h, fun z => by cases z⟩
    | cons x t =>
      rw [if_pos (by simp; omega), if_neg (by simp)]
      refine ⟨_, h, rfl, zFx.rf h, frrN h, fun _ => ?_⟩
      unfold jnx
      rw [if_pos o16]
      refine ⟨?_, O.2.2⟩
      have : ((x :: t).length : Int) = (t.length : Int) + 1 := by simp
      have u : (x :: t).length ≤ 8 := sl
      rw [this, wI_eq ⟨by omega, by omega⟩]
      simp
  rw [if_pos o16, if_neg o16]
  unfold F_X12_judge_120
  rw [if_neg (by decide)]
  by_cases o14 : ops k = 14 ∨ ops k = 15
  · have q1 : (if ops k = 14 then F_X12_judge_139 ag 0 a s.length k (ops k) h else if ops k ≠ 15 then F_X12_judge_198 ag 0 a s.length k (ops k) 0 h else F_X12_judge_139 ag 0 a s.length k (ops k) h) = F_X12_judge_139 ag 0 a s.length k (ops k) h := by
      rcases o14 with z | z
      · rw [if_pos z]
      · rw [if_neg (by omega), if_neg (by simpa using z)]
    rw [q1, if_pos o14]
    unfold F_X12_judge_139 F_X12_judge_167
    cases s with
    | nil => exact ⟨_, h, rfl, zFx.rf h, frrN h, fun z => by cases z⟩
    | cons x t =>
      have u : t.length + 1 ≤ 8 := sl
      have hl : ((x :: t).length : Int) = (t.length : Int) + 1 := by simp
      have l1 : ¬ (t.length : Int) + 1 = 0 := by omega
      have l2 : wI ((t.length : Int) + 1 - 1) = t.length := by rw [wI_eq ⟨by omega, by omega⟩]; omega
      have l3 : (t.length : Int) < 50 := by omega
      obtain ⟨o1, o2, o3⟩ := O
      rw [hl, if_neg l1, if_pos (by decide), pr_23 hp, if_pos (by decide), l2, if_pos ⟨by omega, l3⟩, o1, pr_24 hp]
      by_cases d1 : ops x.1 = 13
      · rw [if_neg (by simpa using d1), if_pos (by decide), o2]
        by_cases d2 : ops x.2 = 15
        · rw [if_pos d2, if_neg (by decide)]
          have : ¬ (ops x.1 = 13 ∧ ops x.2 ≠ 15) := fun z => z.2 d2
          simp only [if_neg this]
          exact ⟨_, h, rfl, zFx.rf h, frrN h, fun z => by cases z⟩
        · rw [if_neg d2, if_pos rfl]
          simp only [if_pos (And.intro d1 d2)]
          have ej : jnx ops k (x :: t) = (x.1, (k : Int)) :: t := by unfold jnx; rw [if_neg o16, if_pos o14]
          by_cases d3 : ops k = 15
          · rw [if_neg (by simpa using d3)]
            refine ⟨_, _, rfl, (zFx.rf h).p1 rfl, frpN (frrN h), fun _ => ?_⟩
            rw [ej]
            refine ⟨by simp, ?_, ?_, o3.ci fun j q1 q2 => ?_⟩
            · rw [← o1]; rfl
            · show _ = if ops k = 15 then (1 : Int) else 0
              rw [if_pos d3]; simp [gt_pt]
            · have : ¬ j = t.length := by omega
              simp [gt_pt, this]
          · rw [if_pos d3]
            refine ⟨_, _, rfl, zFx.rf h, frrN h, fun _ => ?_⟩
            rw [ej]
            refine ⟨by simp, o1, ?_, o3⟩
            show _ = if ops k = 15 then (1 : Int) else 0
            rw [if_neg d3, o2, if_neg d2]
      · rw [if_pos d1]
        have : ¬ (ops x.1 = 13 ∧ ops x.2 ≠ 15) := fun z => d1 z.1
        simp only [if_neg this]
        exact ⟨_, h, rfl, zFx.rf h, frrN h, fun z => by cases z⟩
  have n14 : ¬ ops k = 14 := fun z => o14 (Or.inl z)
  have n15 : ¬ ops k = 15 := fun z => o14 (Or.inr z)
  rw [if_neg n14, if_pos n15, if_neg o14]
  unfold F_X12_judge_198
  rw [if_neg (by decide)]
  unfold F_X12_begins F_X12_begins_0
  by_cases o11 : ops k = 11 ∨ ops k = 12 ∨ ops k = 13
  · have q1 : (if ops k = 11 then some ((1 : Int), h) else if ops k = 12 then some (1, h) else if ops k ≠ 13 then some (0, h) else some (1, h)) = some (1, h) := by
      rcases o11 with z | z | z <;> simp [z]
    rw [q1, if_pos o11]
    simp only [zb]
    rw [if_neg (by decide)]
    by_cases l : s.length < 8
    · have l7 : (s.length : Int) ≤ 7 := by omega
      have l50 : 0 ≤ (s.length : Int) ∧ (s.length : Int) < 50 := by omega
      have g1 : gt (pt h 66 0 s.length (ops k)) 12 0 24 = gt h 12 0 24 := rfl
      rw [if_pos l7, if_pos (by decide), pr_23 hp, if_pos (by decide), if_pos l50, g1, pr_24 hp, if_pos (by decide), if_pos l]
      refine ⟨_, _, rfl, ((zFx.rf h).p1 rfl).p1 rfl, frpN (frpN (frrN h)), fun _ => ?_⟩
      have ej : jnx ops k s = ((k : Int), (k : Int)) :: s := by unfold jnx; rw [if_neg o16, if_neg o14, if_pos o11]
      rw [ej, wI_eq ⟨by omega, by omega⟩]
      refine ⟨by simp, ?_, ?_, O.ci fun j q1 q2 => ?_⟩
      · simp [gt_pt]
      · simp [gt_pt, n15]
      · have : ¬ j = s.length := by omega
        simp [gt_pt, this]
    · rw [if_neg (by omega), if_neg l]
      exact ⟨_, h, rfl, zFx.rf h, frrN h, fun z => by cases z⟩
  · have q1 : (if ops k = 11 then some ((1 : Int), h) else if ops k = 12 then some (1, h) else if ops k ≠ 13 then some (0, h) else some (1, h)) = some (0, h) := by
      rw [if_neg (by omega), if_neg (by omega), if_pos (by omega)]
    rw [q1, if_neg o11]
    simp only [zb]
    rw [if_pos trivial]
    unfold F_X12_judge_250
    rw [if_neg (by decide)]
    have ej : jnx ops k s = s := by unfold jnx; rw [if_neg o16, if_neg o14, if_neg o11]
    rw [ej]
    by_cases o10 : ops k = 10
    · have e : ((0 : Int) ≠ 0 ∨ ∃ j, 0 ≤ j ∧ j < (s.length : Int) ∧ gt h 66 0 j = 11) ↔ (∃ e ∈ s, ops e.1 = 11) := by
        constructor
        · rintro (z | ⟨j, q1, q2, q3⟩)
          · exact absurd rfl z
          · obtain ⟨e, m, z⟩ := O.at j q1 q2
            exact ⟨e, m, by rw [← z]; exact q3⟩
        · rintro ⟨e, m, z⟩
          obtain ⟨j, q1, q2, q3⟩ := O.of e m
          exact Or.inr ⟨j, q1, q2, by rw [q3]; exact z⟩
      rw [if_neg (by simpa using o10), if_pos o10, r_268 (v := if ∃ e ∈ s, ops e.1 = 11 then 0 else 4) hp (by omega) zF 0 0 (Int.le_refl 0) (by omega) (by have := zF_i; omega) (fun z => if_pos (e.mp z)) (fun z => if_neg (fun y => z (e.mpr y)))]
      exact ⟨_, h, rfl, zFx.rf h, frrN h, fun _ => ⟨rfl, O⟩⟩
    · rw [if_pos o10, if_neg o10]
      exact ⟨_, h, rfl, zFx.rf h, frrN h, fun _ => ⟨rfl, O⟩⟩

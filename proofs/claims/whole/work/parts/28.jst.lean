/-! WHAT THE ROW OF LINES IS WORTH: facts -/
def Jin (k : Int) (s : zK) : Prop := ∀ e ∈ s, 0 ≤ e.1 ∧ e.1 ≤ e.2 ∧ e.2 < k
def Jpw (s : zK) : Prop := s.Pairwise (fun x y => y.2 < x.2)
theorem jst_s (ops as bs : Int → Int) (k : Nat) : jst ops as bs (k + 1) = if (jst ops as bs k).1 ≠ 0 then jst ops as bs k
    else if jbad ops as bs k (jst ops as bs k).2.2 ≠ 0 then (jbad ops as bs k (jst ops as bs k).2.2, ((k : Int), (jst ops as bs k).2.2))
    else (0, (0, jnx ops k (jst ops as bs k).2.2)) := rfl
theorem jst_f {ops as bs : Int → Int} {k : Nat} (h : jf ops as bs k ≠ 0) : jst ops as bs (k + 1) = jst ops as bs k := by rw [jst_s, if_pos h]
theorem jst_b {ops as bs : Int → Int} {k : Nat} (h : jf ops as bs k = 0) (b : jbad ops as bs k (js ops as bs k) ≠ 0) : jst ops as bs (k + 1) = (jbad ops as bs k (js ops as bs k), ((k : Int), js ops as bs k)) := by rw [jst_s, if_neg (by simpa using h), if_pos b]
theorem jst_g {ops as bs : Int → Int} {k : Nat} (h : jf ops as bs k = 0) (b : jbad ops as bs k (js ops as bs k) = 0) : jst ops as bs (k + 1) = (0, (0, jnx ops k (js ops as bs k))) := by rw [jst_s, if_neg (by simpa using h), if_neg (by simpa using b)]
theorem jst_stay {ops as bs : Int → Int} {k : Nat} (h : jf ops as bs k ≠ 0) : ∀ d : Nat, jst ops as bs (k + d) = jst ops as bs k
  | 0 => rfl
  | d + 1 => by
    have ih := jst_stay h d
    show jst ops as bs ((k + d) + 1) = _
    rw [jst_f (by show (jst ops as bs (k + d)).1 ≠ 0; rw [ih]; exact h), ih]
theorem jnx_in {ops : Int → Int} {k : Int} {s : zK} (hk : 0 ≤ k) (h : Jin k s) : Jin (k + 1) (jnx ops k s) := by
  intro e he
  have wk : ∀ e ∈ s, 0 ≤ e.1 ∧ e.1 ≤ e.2 ∧ e.2 < k + 1 := fun e m => by have := h e m; omega
  unfold jnx at he
  by_cases c1 : ops k = 16
  · rw [if_pos c1] at he
    exact wk e (List.mem_of_mem_tail he)
  rw [if_neg c1] at he
  by_cases c2 : ops k = 14 ∨ ops k = 15
  · rw [if_pos c2] at he
    cases s with
    | nil => cases he
    | cons x t =>
      rcases List.mem_cons.mp he with q | q
      · rw [q]; have := h x (List.mem_cons_self ..); simp; omega
      · exact wk e (List.mem_cons_of_mem _ q)
  rw [if_neg c2] at he
  by_cases c3 : ops k = 11 ∨ ops k = 12 ∨ ops k = 13
  · rw [if_pos c3] at he
    rcases List.mem_cons.mp he with q | q
    · rw [q]; simp; omega
    · exact wk e q
  · rw [if_neg c3] at he
    exact wk e he
theorem jnx_pw {ops : Int → Int} {k : Int} {s : zK} (h : Jin k s) (p : Jpw s) : Jpw (jnx ops k s) := by
  unfold jnx
  by_cases c1 : ops k = 16
  · rw [if_pos c1]
    cases s with
    | nil => exact List.Pairwise.nil
    | cons x t => exact (List.pairwise_cons.mp p).2
  rw [if_neg c1]
  by_cases c2 : ops k = 14 ∨ ops k = 15
  · rw [if_pos c2]
    cases s with
    | nil => exact List.Pairwise.nil
    | cons x t => exact List.pairwise_cons.mpr ⟨fun y m => (h y (List.mem_cons_of_mem _ m)).2.2, (List.pairwise_cons.mp p).2⟩
  rw [if_neg c2]
  by_cases c3 : ops k = 11 ∨ ops k = 12 ∨ ops k = 13
  · rw [if_pos c3]
    exact List.pairwise_cons.mpr ⟨fun y m => (h y m).2.2, p⟩
  · rw [if_neg c3]; exact p
theorem jst_in (ops as bs : Int → Int) : ∀ k : Nat, Jin k (js ops as bs k) ∧ Jpw (js ops as bs k)
  | 0 => ⟨(fun e m => by cases m), List.Pairwise.nil⟩
  | k + 1 => by
    obtain ⟨a, b⟩ := jst_in ops as bs k
    have wk : Jin ((k : Int) + 1) (js ops as bs k) := fun e m => by have := a e m; omega
    show Jin (((k + 1 : Nat)) : Int) (jst ops as bs (k + 1)).2.2 ∧ Jpw (jst ops as bs (k + 1)).2.2
    by_cases c : jf ops as bs k = 0
    · by_cases d : jbad ops as bs k (js ops as bs k) = 0
      · rw [jst_g c d]; exact ⟨jnx_in (Int.natCast_nonneg k) a, jnx_pw a b⟩
      · rw [jst_b c d]; exact ⟨wk, b⟩
    · rw [jst_f c]; exact ⟨wk, b⟩
theorem jbad_lt {ops as bs : Int → Int} {k : Int} {s : zK} (b : jbad ops as bs k s = 0) (c : ops k = 11 ∨ ops k = 12 ∨ ops k = 13) : s.length < 8 := by
  unfold jbad at b
  by_cases w : jwr (ops k) (as k) (bs k)
  · rw [if_pos w] at b; cases b
  rw [if_neg w, if_neg (by omega), if_neg (by omega), if_pos c] at b
  by_cases l : s.length < 8
  · exact l
  · rw [if_neg l] at b; cases b
theorem jst_len (ops as bs : Int → Int) : ∀ k : Nat, (js ops as bs k).length ≤ 8
  | 0 => Nat.zero_le _
  | k + 1 => by
    have ih := jst_len ops as bs k
    show (jst ops as bs (k + 1)).2.2.length ≤ 8
    by_cases c : jf ops as bs k = 0
    · by_cases d : jbad ops as bs k (js ops as bs k) = 0
      · rw [jst_g c d]
        show (jnx ops k (js ops as bs k)).length ≤ 8
        unfold jnx
        by_cases c1 : ops k = 16
        · rw [if_pos c1, List.length_tail]; omega
        rw [if_neg c1]
        by_cases c2 : ops k = 14 ∨ ops k = 15
        · rw [if_pos c2]
          cases q : js ops as bs k with
          | nil => exact Nat.zero_le _
          | cons x t => rw [q] at ih; exact ih
        rw [if_neg c2]
        by_cases c3 : ops k = 11 ∨ ops k = 12 ∨ ops k = 13
        · rw [if_pos c3]
          have := jbad_lt d c3
          show (js ops as bs k).length + 1 ≤ 8
          omega
        · rw [if_neg c3]; exact ih
      · rw [jst_b c d]; exact ih
    · rw [jst_f c]; exact ih
theorem jbad_cg {ops as bs ops' as' bs' : Int → Int} {k : Int} {s : zK} (i : Jin k s) (h : ∀ j : Int, 0 ≤ j → j < k → ops' j = ops j) (e1 : ops' k = ops k) (e2 : as' k = as k) (e3 : bs' k = bs k) : jbad ops' as' bs' k s = jbad ops as bs k s := by
  unfold jbad
  rw [e1, e2, e3]
  have q : (∃ e ∈ s, ops' e.1 = 11) ↔ (∃ e ∈ s, ops e.1 = 11) := by
    constructor
    · rintro ⟨e, m, z⟩
      have := i e m
      exact ⟨e, m, by rw [← h e.1 this.1 (by omega)]; exact z⟩
    · rintro ⟨e, m, z⟩
      have := i e m
      exact ⟨e, m, by rw [h e.1 this.1 (by omega)]; exact z⟩
  simp only [q]
  cases s with
  | nil => rfl
  | cons x t =>
    have := i x (List.mem_cons_self ..)
    simp only [h x.1 this.1 (by omega), h x.2 (by omega) this.2.2]
theorem jnx_cg {ops ops' : Int → Int} {k : Int} {s : zK} (e1 : ops' k = ops k) : jnx ops' k s = jnx ops k s := by
  unfold jnx
  rw [e1]
theorem jst_cg {ops as bs ops' as' bs' : Int → Int} : ∀ (k : Nat), (∀ j : Int, 0 ≤ j → j < k → ops' j = ops j ∧ as' j = as j ∧ bs' j = bs j) → jst ops' as' bs' k = jst ops as bs k
  | 0, _ => rfl
  | k + 1, h => by
    have ih := jst_cg k (fun j a b => h j a (by omega))
    have hk := h k (Int.natCast_nonneg k) (by omega)
    have hb : jbad ops' as' bs' k (jst ops as bs k).2.2 = jbad ops as bs k (jst ops as bs k).2.2 := jbad_cg (jst_in ops as bs k).1 (fun j a b => (h j a (by omega)).1) hk.1 hk.2.1 hk.2.2
    rw [jst_s, jst_s, ih, hb, jnx_cg hk.1]
/-- a mark that is linked already is no BLOCK's latest any more -/
theorem jst_un (ops as bs : Int → Int) : ∀ (n q : Nat), q < n → jf ops as bs (q + 1) = 0 → (ops q = 14 ∨ ops q = 15 ∨ ops q = 16) → ∀ (e : Int × Int) (t : zK), js ops as bs q = e :: t → ∀ x ∈ js ops as bs n, x.2 ≠ e.2
  | 0, q, hq, _, _, _, _, _, _, _ => by omega
  | n + 1, q, hq, hf, ho, e, t, he, x, hx => by
    have hx : x ∈ (jst ops as bs (n + 1)).2.2 := hx
    have eq : e.2 < q := by
      have := (jst_in ops as bs q).1 e (by rw [he]; exact List.mem_cons_self ..)
      exact this.2.2
    by_cases c : jf ops as bs n = 0
    · by_cases d : jbad ops as bs n (js ops as bs n) = 0
      · rw [jst_g c d] at hx
        have hx : x ∈ jnx ops n (js ops as bs n) := hx
        by_cases hn : q = n
        · subst hn
          rw [he] at hx
          have pw := (jst_in ops as bs q).2
          rw [he] at pw
          have pw1 := (List.pairwise_cons.mp pw).1
          unfold jnx at hx
          by_cases c1 : ops q = 16
          · rw [if_pos c1] at hx
            have := pw1 x hx
            omega
          · rw [if_neg c1, if_pos (by omega)] at hx
            rcases List.mem_cons.mp hx with z | z
            · rw [z]; simp; omega
            · have := pw1 x z
              omega
        · have ih := jst_un ops as bs n q (by omega) hf ho e t he
          unfold jnx at hx
          by_cases c1 : ops n = 16
          · rw [if_pos c1] at hx
            exact ih x (List.mem_of_mem_tail hx)
          rw [if_neg c1] at hx
          by_cases c2 : ops n = 14 ∨ ops n = 15
          · rw [if_pos c2] at hx
            cases w : js ops as bs n with
            | nil => rw [w] at hx; cases hx
            | cons y u =>
              rw [w] at hx ih
              rcases List.mem_cons.mp hx with z | z
              · rw [z]; simp; omega
              · exact ih x (List.mem_cons_of_mem _ z)
          rw [if_neg c2] at hx
          by_cases c3 : ops n = 11 ∨ ops n = 12 ∨ ops n = 13
          · rw [if_pos c3] at hx
            rcases List.mem_cons.mp hx with z | z
            · rw [z]; simp; omega
            · exact ih x z
          · rw [if_neg c3] at hx
            exact ih x hx
      · rw [jst_b c d] at hx
        by_cases hn : q = n
        · subst hn
          have : jf ops as bs (q + 1) = jbad ops as bs q (js ops as bs q) := by show (jst ops as bs (q + 1)).1 = _; rw [jst_b c d]
          rw [this] at hf; exact absurd hf d
        · exact jst_un ops as bs n q (by omega) hf ho e t he x hx
    · rw [jst_f c] at hx
      by_cases hn : q = n
      · subst hn
        have : jf ops as bs (q + 1) = jf ops as bs q := by show (jst ops as bs (q + 1)).1 = _; rw [jst_f c]
        rw [this] at hf; exact absurd hf c
      · exact jst_un ops as bs n q (by omega) hf ho e t he x hx
theorem SBk.ci {h h' : zH} {i : Int} {s : zK} (e : ∀ j : Int, 0 ≤ j → j < s.length → gt h' 47 i j = gt h 47 i j ∧ gt h' 48 i j = gt h 48 i j) (k : SBk h i s) : SBk h' i s := by
  induction s with
  | nil => trivial
  | cons x t ih =>
    have q := e t.length (Int.natCast_nonneg _) (by simp; omega)
    exact ⟨by rw [q.1]; exact k.1, by rw [q.2]; exact k.2.1, ih (fun j a b => e j a (by simp; omega)) k.2.2⟩
theorem SBk.at {h : zH} {i : Int} : ∀ {s : zK}, SBk h i s → ∀ j : Int, 0 ≤ j → j < s.length → ∃ e ∈ s, gt h 47 i j = e.1 ∧ gt h 48 i j = e.2
  | [], _, j, a, b => by simp at b; omega
  | x :: t, k, j, a, b => by
    by_cases c : j = t.length
    · rw [c]; exact ⟨x, List.mem_cons_self .., k.1, k.2.1⟩
    · obtain ⟨e, m, z⟩ := k.2.2.at j a (by simp at b; omega)
      exact ⟨e, List.mem_cons_of_mem _ m, z⟩
theorem SBk.of {h : zH} {i : Int} : ∀ {s : zK}, SBk h i s → ∀ e ∈ s, ∃ j : Int, 0 ≤ j ∧ j < s.length ∧ gt h 47 i j = e.1 ∧ gt h 48 i j = e.2
  | [], _, e, m => by cases m
  | x :: t, k, e, m => by
    rcases List.mem_cons.mp m with q | q
    · rw [q]; exact ⟨t.length, Int.natCast_nonneg _, by simp; omega, k.1, k.2.1⟩
    · obtain ⟨j, a, b, z⟩ := k.2.2.of e q
      exact ⟨j, a, by simp; omega, z⟩
theorem JSc.ci {h h' : zH} {i : Int} (e10 : gt h' 10 i = gt h 10 i) (e43 : gt h' 43 i = gt h 43 i) (e44 : gt h' 44 i = gt h 44 i) (e45 : gt h' 45 i = gt h 45 i) (e46 : gt h' 46 i = gt h 46 i) (e47 : gt h' 47 i = gt h 47 i) (e48 : gt h' 48 i = gt h 48 i) (k : JSc h i) : JSc h' i := by
  obtain ⟨k1, k2, k3, k4, k5⟩ := k
  unfold JSc NXk
  rw [e10, e43, e44, e45, e46]
  exact ⟨k1, k2, k3, k4.ci (fun j a b => by rw [e47, e48]; exact ⟨rfl, rfl⟩), k5⟩
theorem JSc.z {h : zH} {i : Int} (e4 : gt h 10 i 4 = 0) (e5 : gt h 10 i 5 = 0) (e9 : gt h 10 i 9 = 0) : JSc h i := by
  unfold JSc
  rw [e4, e5, e9]
  exact ⟨rfl, fun z => absurd rfl z, rfl, trivial, fun q hq => absurd hq (Nat.not_lt_zero _)⟩

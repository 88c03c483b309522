/-! the ways between LINES: what stands behind a mark -/
theorem wI_s {z : Int} (h : -1000000 ≤ z ∧ z ≤ 1000000) : wI z = z := wI_eq ⟨by omega, by omega⟩
def zSd (ops as bs : Int → Int) (n : Nat) : Prop := jf ops as bs n = 0 ∧ js ops as bs n = []
theorem jnx_16 {ops : Int → Int} {k : Int} {s : zK} (c : ops k = 16) : jnx ops k s = s.tail := by unfold jnx; rw [if_pos c]
theorem jnx_14 {ops : Int → Int} {k : Int} {e : Int × Int} {t : zK} (c : ops k = 14 ∨ ops k = 15) : jnx ops k (e :: t) = (e.1, k) :: t := by unfold jnx; rw [if_neg (by omega), if_pos c]
theorem jnx_11 {ops : Int → Int} {k : Int} {s : zK} (c : ops k = 11 ∨ ops k = 12 ∨ ops k = 13) : jnx ops k s = (k, k) :: s := by unfold jnx; rw [if_neg (by omega), if_neg (by omega), if_pos c]
theorem jnx_o {ops : Int → Int} {k : Int} {s : zK} (c : ¬ (ops k = 11 ∨ ops k = 12 ∨ ops k = 13)) (d : ¬ zMk (ops k)) : jnx ops k s = s := by unfold jnx; rw [if_neg (fun z => d (Or.inr (Or.inr z))), if_neg (fun z => d (by rcases z with z | z; exact Or.inl z; exact Or.inr (Or.inl z))), if_neg c]
theorem e_len {ops as bs : Int → Int} {k : Nat} {X t : zK} (e : js ops as bs k = X ++ t) : X.length ≤ 8 := by
  have l := jst_len ops as bs k
  rw [e, List.length_append] at l
  exact Nat.le_trans (Nat.le_add_right _ _) l
theorem jf_le {ops as bs : Int → Int} {n q : Nat} (h : jf ops as bs n = 0) (l : q ≤ n) : jf ops as bs q = 0 := by
  refine Classical.byContradiction fun c => ?_
  have e := jst_stay c (n - q)
  rw [show q + (n - q) = n by omega] at e
  have h : (jst ops as bs n).1 = 0 := h
  rw [e] at h
  exact c h
theorem js_s {ops as bs : Int → Int} {n k : Nat} (h : jf ops as bs n = 0) (l : k < n) : js ops as bs (k + 1) = jnx ops k (js ops as bs k) ∧ jbad ops as bs k (js ops as bs k) = 0 := by
  have h0 := jf_le h (Nat.le_of_lt l)
  have h1 := jf_le h (show k + 1 ≤ n from l)
  have b : jbad ops as bs k (js ops as bs k) = 0 := by
    refine Classical.byContradiction fun c => ?_
    have := jst_b h0 c
    have h1 : (jst ops as bs (k + 1)).1 = 0 := h1
    rw [this] at h1
    exact c h1
  refine ⟨?_, b⟩
  show (jst ops as bs (k + 1)).2.2 = _
  rw [jst_g h0 b]
theorem s_begins (o : Int) (h : zH) : F_X12_begins o h = some (if o = 11 ∨ o = 12 ∨ o = 13 then 1 else 0, h) := by
  unfold F_X12_begins F_X12_begins_0
  by_cases a : o = 11
  · simp [a]
  · by_cases b : o = 12
    · simp [b]
    · by_cases c : o = 13 <;> simp [a, b, c]
theorem r_beh {a : Int} {n : Nat} {h : zH} {ops as bs : Int → Int} (hp : PIr h) (a0 : 0 ≤ a) (a1 : a < 12) (hn4 : n ≤ 40) (E : ∀ k : Nat, k < n → gt h 63 0 (40 * a + k) = ops k) (jn : zSd ops as bs n) {t : zK} (tn : t ≠ []) :
    ∀ (f : Nat) (k : Nat) (X : zK), k ≤ n → n - k + 1 < f → js ops as bs k = X ++ t → ∃ q : Nat, k ≤ q ∧ q < n ∧ zMk (ops q) ∧ js ops as bs q = t ∧ F_X12_behind_10 f 0 a X.length k 1 h = some ((q : Int), h)
  | 0, k, X, _, hf, _ => by omega
  | f + 1, k, X, hk, hf, e => by
    have kn : k < n := by
      refine Nat.lt_of_le_of_ne hk fun z => ?_
      rw [z, jn.2] at e
      exact tn (List.append_eq_nil_iff.mp e.symm).2
    have s1 := (js_s jn.1 kn).1
    have xl : X.length ≤ 8 := e_len e
    have eE := E k kn
    have hf' : n - (k + 1) + 1 < f := by omega
    have r1 : (-1000000 ≤ 40 * a ∧ 40 * a ≤ 1000000) ∧ (-1000000 ≤ 40 * a + (k : Int) ∧ 40 * a + (k : Int) ≤ 1000000) := by omega
    have r2 : -1000000 ≤ (k : Int) + 1 ∧ (k : Int) + 1 ≤ 1000000 := by omega
    have r3 : -1000000 ≤ (X.length : Int) + 1 ∧ (X.length : Int) + 1 ≤ 1000000 := by omega
    have r4 : -1000000 ≤ (X.length : Int) ∧ (X.length : Int) ≤ 1000000 := by omega
    have eb : 0 ≤ 40 * a + (k : Int) ∧ 40 * a + (k : Int) < 480 := by omega
    have f0 : f ≠ 0 := by omega
    have qk : ∀ q : Nat, k + 1 ≤ q → k ≤ q := fun q h => by omega
    have ei : wI (wI (40 * a) + (k : Int)) = 40 * a + k := by rw [wI_s r1.1, wI_s r1.2]
    have w1 : wI ((k : Int) + 1) = ((k + 1 : Nat) : Int) := wI_s r2
    have d1 : wI ((X.length : Int) + 1) = ((X.length + 1 : Nat) : Int) := wI_s r3
    have d0 : wI ((X.length : Int) + 0) = X.length := by rw [Int.add_zero]; exact wI_s r4
    have dm : ∀ (x : Int × Int) (Y : zK), Y.length ≤ 8 → wI (((x :: Y).length : Int) + (-1)) = (Y.length : Int) := fun x Y z => by
      have q : ((x :: Y).length : Int) + (-1) = (Y.length : Int) := by simp; omega
      rw [q]; exact wI_s ⟨by omega, by omega⟩
    have go : (¬ (X = [] ∧ zMk (ops k))) → ∃ Y : zK, js ops as bs (k + 1) = Y ++ t ∧ F_X12_behind_60 (F_X12_behind_10 f) 0 a X.length k 1 (ops k) h = F_X12_behind_10 f 0 a Y.length ((k + 1 : Nat) : Int) 1 h := fun hno => by
      unfold F_X12_behind_60
      rw [s_begins, s1, e, w1, d1, d0]
      simp only [zb]
      by_cases c3 : ops k = 11 ∨ ops k = 12 ∨ ops k = 13
      · refine ⟨((k : Int), (k : Int)) :: X, ?_, ?_⟩
        · rw [jnx_11 c3]; rfl
        · rw [if_pos c3, if_neg (by decide)]; rfl
      · rw [if_neg c3, if_pos rfl]
        by_cases c1 : ops k = 16
        · cases X with
          | nil => exact absurd ⟨rfl, Or.inr (Or.inr c1)⟩ hno
          | cons x X =>
            refine ⟨X, ?_, ?_⟩
            · rw [jnx_16 c1]; rfl
            · rw [if_neg (by simpa using c1), dm x X (Nat.le_trans (Nat.le_succ _) xl)]
        · rw [if_pos (by simpa using c1)]
          by_cases c2 : ops k = 14 ∨ ops k = 15
          · cases X with
            | nil => exact absurd ⟨rfl, by rcases c2 with z | z; exact Or.inl z; exact Or.inr (Or.inl z)⟩ hno
            | cons x X =>
              refine ⟨(x.1, (k : Int)) :: X, ?_, rfl⟩
              show jnx ops k (x :: (X ++ t)) = _
              rw [jnx_14 c2]; rfl
          · refine ⟨X, jnx_o c3 (fun z => ?_), rfl⟩
            rcases z with z | z | z
            · exact c2 (Or.inl z)
            · exact c2 (Or.inr z)
            · exact c1 z
    have st : F_X12_behind_10 (f + 1) 0 a X.length k 1 h = if X = [] ∧ zMk (ops k) then F_X12_behind_10 f 0 a X.length k 0 h else F_X12_behind_60 (F_X12_behind_10 f) 0 a X.length k 1 (ops k) h := by
      show F_X12_behind_10b (F_X12_behind_10 f) 0 a X.length k 1 h = _
      unfold F_X12_behind_10b F_X12_behind_54
      rw [if_neg (by decide), if_pos (by decide), pr_18 hp, if_pos (by decide), ei, if_pos eb, eE]
      cases X with
      | nil =>
        rw [if_neg (by simp)]
        by_cases o16 : ops k = 16
        · rw [if_pos o16, if_pos ⟨rfl, Or.inr (Or.inr o16)⟩]
        · rw [if_neg o16]
          by_cases o14 : ops k = 14
          · rw [if_pos o14, if_pos ⟨rfl, Or.inl o14⟩]
          · rw [if_neg o14]
            by_cases o15 : ops k = 15
            · rw [if_neg (by simpa using o15), if_pos ⟨rfl, Or.inr (Or.inl o15)⟩]
            · rw [if_pos o15, if_neg]
              rintro ⟨_, z | z | z⟩
              · exact o14 z
              · exact o15 z
              · exact o16 z
      | cons x X =>
        have : ((x :: X).length : Int) ≠ 0 := by
          clear ei w1 d1 d0 dm
          simp; omega
        rw [if_pos this, if_neg (fun z => by cases z.1)]
    rw [st]
    by_cases c : X = [] ∧ zMk (ops k)
    · rw [if_pos c]
      refine ⟨k, Nat.le_refl _, kn, c.2, by rw [e, c.1]; rfl, ?_⟩
      cases f with
      | zero => exact absurd rfl f0
      | succ f => rfl
    · rw [if_neg c]
      obtain ⟨Y, y1, y2⟩ := go c
      obtain ⟨q, q1, q2, q3⟩ := r_beh hp a0 a1 hn4 E jn tn f (k + 1) Y kn hf' y1
      exact ⟨q, qk q q1, q2, by rw [y2]; exact q3⟩
/-- an ACT that is SOUND, on both sides -/
def zS (hc hr : zH) (a : Int) (n : Nat) : Prop := 0 ≤ a ∧ a < gt hc 11 0 2 ∧ (n : Int) = gt hr 62 0 a ∧ zSd (gt hc 43 (a + 1)) (gt hc 44 (a + 1)) (gt hc 45 (a + 1)) n
abbrev zjs (hc : zH) (a : Int) (k : Nat) : zK := js (gt hc 43 (a + 1)) (gt hc 44 (a + 1)) (gt hc 45 (a + 1)) k
theorem zS.e {hc hr : zH} {a : Int} {n : Nat} (R : RSx hc hr) (s : zS hc hr a n) : a < 12 ∧ n ≤ 40 ∧ gt hc 10 (a + 1) 4 = n ∧ (∀ k : Nat, k < n → gt hr 63 0 (40 * a + k) = gt hc 43 (a + 1) k ∧ gt hr 64 0 (40 * a + k) = gt hc 44 (a + 1) k ∧ gt hr 65 0 (40 * a + k) = gt hc 45 (a + 1) k) ∧ NXk hc (a + 1) (gt hc 43 (a + 1)) (gt hc 44 (a + 1)) (gt hc 45 (a + 1)) n := by
  obtain ⟨k1, k2, k3, k4⟩ := R
  obtain ⟨s1, s2, s3, s4⟩ := s
  obtain ⟨m1, m2, m3, m4, m5⟩ := k4 a s1 s2
  have e4 : gt hc 10 (a + 1) 4 = n := by rw [m1, s3]
  refine ⟨by omega, by omega, e4, fun k hk => ?_, ?_⟩
  · obtain ⟨y1, y2, y3⟩ := m4 k (Int.natCast_nonneg k) (by omega)
    exact ⟨y1.symm, y2.symm, y3.symm⟩
  · have := m5.2.2.2.2
    rw [e4] at this
    simpa using this
theorem s_at4 {h : zH} {i k : Int} (hS : SC h) (i1 : 1 ≤ i) (i2 : i ≤ gt h 11 0 2) (l : gt h 10 i 4 ≤ 40) : F_X10_opAt i k h = some (if 0 ≤ k ∧ k < gt h 10 i 4 then gt h 43 i k else -1, h) ∧ F_X10_aAt i k h = some (if 0 ≤ k ∧ k < gt h 10 i 4 then gt h 44 i k else -1, h) ∧
    F_X10_bAt i k h = some (if 0 ≤ k ∧ k < gt h 10 i 4 then gt h 45 i k else -1, h) ∧ F_X10_nextOf i k h = some (if 0 ≤ k ∧ k < gt h 10 i 4 then gt h 46 i k else -1, h) := by
  obtain ⟨f0, f1, f2, f3, f7, f8⟩ := hS.2.2.2.2.2.2.1 i i1 i2
  have i0 : 0 ≤ i := by omega
  unfold F_X10_opAt F_X10_opAt_0 F_X10_aAt F_X10_aAt_0 F_X10_bAt F_X10_bAt_0 F_X10_nextOf F_X10_nextOf_0
  simp only [s_within, zb, f0, f1, f2, f3]
  by_cases c : 0 ≤ k ∧ k < gt h 10 i 4
  · have c4 : k < 40 := by omega
    simp [c, c4, i0]
  · simp [c, i0]
/-- the next mark -/
theorem nx1 {hc hr : zH} {a L : Int} {n m : Nat} {cx : zK} (R : RSx hc hr) (hS : SC hc) (hq : PIr hr) (s : zS hc hr a n) (mn : m < n) (e : zjs hc a (m + 1) = (L, (m : Int)) :: cx) :
    ∃ q : Nat, m < q ∧ q < n ∧ zMk (gt hc 43 (a + 1) q) ∧ zjs hc a q = (L, (m : Int)) :: cx ∧ F_X12_behind 0 a m hr = some ((q : Int), hr) ∧ F_X10_nextOf (a + 1) m hc = some ((q : Int), hc) ∧
      (gt hc 43 (a + 1) q ≠ 16 → zjs hc a (q + 1) = (L, (q : Int)) :: cx ∧ gt hc 43 (a + 1) L = 13 ∧ gt hc 43 (a + 1) m ≠ 15) ∧ (gt hc 43 (a + 1) q = 16 → zjs hc a (q + 1) = cx) := by
  obtain ⟨e1, e2, e3, e4, e5⟩ := s.e R
  obtain ⟨s1, s2, s3, s4⟩ := s
  have hz := zF_i
  obtain ⟨q, q1, q2, q3, q4, q5⟩ := r_beh hq s1 e1 e2 (fun k hk => (e4 k hk).1) s4 (t := (L, (m : Int)) :: cx) (by simp) zF (m + 1) [] mn (by omega) e
  have r1 : -1000000 ≤ (m : Int) + 1 ∧ (m : Int) + 1 ≤ 1000000 := by omega
  have q0 : 0 ≤ (q : Int) ∧ (q : Int) < n := by omega
  have a10 : 1 ≤ a + 1 ∧ a + 1 ≤ gt hc 11 0 2 := by omega
  have l40 : gt hc 10 (a + 1) 4 ≤ 40 := by omega
  have m0 : 0 ≤ (m : Int) ∧ (m : Int) < n := by omega
  have w1 : wI ((m : Int) + 1) = ((m + 1 : Nat) : Int) := wI_s r1
  have t1 := (js_s s4.1 q2).1
  have q4' : js (gt hc 43 (a + 1)) (gt hc 44 (a + 1)) (gt hc 45 (a + 1)) q = (L, (m : Int)) :: cx := q4
  refine ⟨q, q1, q2, q3, q4, ?_, ?_, fun c => ?_, fun c => ?_⟩
  · unfold F_X12_behind F_X12_behind_0
    rw [w1]; exact q5
  · rw [(s_at4 hS a10.1 a10.2 l40).2.2.2, e3, if_pos m0, e5 q q2 (jf_le s4.1 q2) q3 _ _ q4']
  · have o : gt hc 43 (a + 1) q = 14 ∨ gt hc 43 (a + 1) q = 15 := by
      rcases q3 with z | z | z
      · exact Or.inl z
      · exact Or.inr z
      · exact absurd z c
    rw [q4'] at t1
    refine ⟨?_, ?_⟩
    · show js _ _ _ (q + 1) = _
      rw [t1, jnx_14 o]
    · have t2 := (js_s s4.1 q2).2
      rw [q4'] at t2
      unfold jbad at t2
      by_cases w : jwr (gt hc 43 (a + 1) q) (gt hc 44 (a + 1) q) (gt hc 45 (a + 1) q)
      · rw [if_pos w] at t2; cases t2
      · rw [if_neg w, if_neg c, if_pos o] at t2
        by_cases y : gt hc 43 (a + 1) L = 13 ∧ gt hc 43 (a + 1) m ≠ 15
        · exact y
        · have t2 : (if gt hc 43 (a + 1) L = 13 ∧ gt hc 43 (a + 1) m ≠ 15 then (0 : Int) else 2) = 0 := t2
          rw [if_neg y] at t2; cases t2
  · rw [q4'] at t1
    show js _ _ _ (q + 1) = _
    rw [t1, jnx_16 c]; rfl
theorem s_ei {a : Int} {k : Nat} (a0 : 0 ≤ a) (a1 : a < 12) (hk : k < 40) : wI (wI (40 * a) + (k : Int)) = 40 * a + k ∧ 0 ≤ 40 * a + (k : Int) ∧ 40 * a + (k : Int) < 480 := by
  have r1 : (-1000000 ≤ 40 * a ∧ 40 * a ≤ 1000000) ∧ (-1000000 ≤ 40 * a + (k : Int) ∧ 40 * a + (k : Int) ≤ 1000000) := by omega
  exact ⟨by rw [wI_s r1.1, wI_s r1.2], by omega, by omega⟩
/-- the way out of a TRY -/
theorem wo1 {hc hr : zH} {a L : Int} {n : Nat} {cx : zK} (R : RSx hc hr) (hS : SC hc) (hq : PIr hr) (s : zS hc hr a n) : ∀ (d : Nat) (m q : Nat) (fc fr fe : Nat) (i : Int), n - q ≤ d → d < fc → d < fr → d < fe → 0 ≤ i → i < q → q < n → zMk (gt hc 43 (a + 1) q) → zjs hc a q = (L, (m : Int)) :: cx → (gt hc 43 (a + 1) q ≠ 16 → zjs hc a (q + 1) = (L, (q : Int)) :: cx ∧ gt hc 43 (a + 1) L = 13 ∧ gt hc 43 (a + 1) m ≠ 15) → (gt hc 43 (a + 1) q = 16 → zjs hc a (q + 1) = cx) →
    ∃ w m' : Nat, q ≤ w ∧ w < n ∧ (gt hc 43 (a + 1) w = 15 ∨ gt hc 43 (a + 1) w = 16) ∧ zjs hc a w = (L, (m' : Int)) :: cx ∧ (gt hc 43 (a + 1) w = 15 → zjs hc a (w + 1) = (L, (w : Int)) :: cx) ∧ (gt hc 43 (a + 1) w = 16 → zjs hc a (w + 1) = cx) ∧ (gt hc 43 (a + 1) q = 16 → w = q) ∧
      F_X10_wayOut_8 fc (a + 1) q i hc = some ((w : Int), hc) ∧ F_X12_finishOf_7 fr 0 a q hr = some (if gt hc 43 (a + 1) w = 15 then (w : Int) else -1, hr) ∧ (gt hc 43 (a + 1) w = 16 → F_X12_endOf_7 fe 0 a q hr = some ((w : Int), hr))
  | d, m, q, 0, fr, fe, i => by omega
  | d, m, q, fc + 1, 0, fe, i => by omega
  | d, m, q, fc + 1, fr + 1, 0, i => by omega
  | 0, m, q, fc + 1, fr + 1, fe + 1, i => by omega
  | d + 1, m, q, fc + 1, fr + 1, fe + 1, i => by
    intro h1 h2 h3 h4 i0 iq qn zm e u v
    obtain ⟨e1, e2, e3, e4, e5⟩ := s.e R
    have s' := s
    obtain ⟨s1, s2, s3, s4⟩ := s'
    have k3 := s2
    have q40 : q < 40 := by omega
    obtain ⟨ei, eb⟩ := s_ei s1 e1 q40
    have eq := (e4 q qn).1
    have rw1 : ¬ 40 ≤ i := by omega
    have sO := (s_at4 (k := q) hS (show 1 ≤ a + 1 by omega) (show a + 1 ≤ gt hc 11 0 2 by omega) (by omega)).1
    rw [e3, if_pos ⟨by omega, by omega⟩] at sO
    have f1 : F_X10_wayOut_8 (fc + 1) (a + 1) q i hc = if gt hc 43 (a + 1) q ≠ 14 then some ((q : Int), hc) else zb (F_X10_nextOf (a + 1) q hc) (fun r5 h5 => F_X10_wayOut_8 fc (a + 1) r5 (wI (i + 1)) h5) := by
      show F_X10_wayOut_8b (F_X10_wayOut_8 fc) (a + 1) q i hc = _
      unfold F_X10_wayOut_8b
      rw [if_neg rw1, if_pos (by omega), sO]
      rfl
    have f2 : F_X12_finishOf_7 (fr + 1) 0 a q hr = if gt hc 43 (a + 1) q ≠ 14 then (if gt hc 43 (a + 1) q ≠ 15 then some ((-1), hr) else some ((q : Int), hr)) else zb (F_X12_behind 0 a q hr) (fun r6 h6 => F_X12_finishOf_7 fr 0 a r6 h6) := by
      show F_X12_finishOf_7b (F_X12_finishOf_7 fr) 0 a q hr = _
      unfold F_X12_finishOf_7b
      rw [if_pos (by decide), pr_18 hq, if_pos (by decide), ei, if_pos eb, eq]
    have f3 : F_X12_endOf_7 (fe + 1) 0 a q hr = if gt hc 43 (a + 1) q = 16 then some ((q : Int), hr) else zb (F_X12_behind 0 a q hr) (fun r5 h5 => F_X12_endOf_7 fe 0 a r5 h5) := by
      show F_X12_endOf_7b (F_X12_endOf_7 fe) 0 a q hr = _
      unfold F_X12_endOf_7b
      rw [if_pos (by decide), pr_18 hq, if_pos (by decide), ei, if_pos eb, eq]
    rw [f1, f2, f3]
    by_cases o14 : gt hc 43 (a + 1) q = 14
    · obtain ⟨u1, u2, u3⟩ := u (by omega)
      obtain ⟨q', a1', a2, a3, a4, a5, a6, a7, a8⟩ := nx1 R hS hq s qn u1
      have wi : wI (i + 1) = i + 1 := wI_eq ⟨by omega, by omega⟩
      have d1 : n - q' ≤ d := by omega
      have i2 : i + 1 < q' := by omega
      obtain ⟨w, m', b1, b2, b3, b4, b5, b6, b7, b8, b9, b10⟩ := wo1 R hS hq s d q q' fc fr fe (i + 1) d1 (by omega) (by omega) (by omega) (by omega) i2 a2 a3 a4 a7 a8
      refine ⟨w, m', by omega, b2, b3, b4, b5, b6, fun z => by omega, ?_, ?_, ?_⟩
      · rw [if_neg (by simpa using o14), a6, wi]; exact b8
      · rw [if_neg (by simpa using o14), a5]; exact b9
      · intro z
        rw [if_neg (by omega), a5]; exact b10 z
    · refine ⟨q, m, Nat.le_refl _, qn, by omega, e, fun z => (u (by omega)).1, v, fun _ => rfl, ?_, ?_, ?_⟩
      · rw [if_pos o14]
      · rw [if_pos o14]
        by_cases z : gt hc 43 (a + 1) q = 15
        · rw [if_neg (by simpa using z), if_pos z]
        · rw [if_pos z, if_neg z]
      · intro z
        rw [if_pos z]
theorem wo2 {hc hr : zH} {a : Int} {n L : Nat} {cx : zK} (R : RSx hc hr) (hS : SC hc) (hq : PIr hr) (s : zS hc hr a n) (Ln : L < n) (e : zjs hc a (L + 1) = ((L : Int), (L : Int)) :: cx) :
    ∃ w m : Nat, L < w ∧ w < n ∧ (gt hc 43 (a + 1) w = 15 ∨ gt hc 43 (a + 1) w = 16) ∧ zjs hc a w = ((L : Int), (m : Int)) :: cx ∧ (gt hc 43 (a + 1) w = 15 → zjs hc a (w + 1) = ((L : Int), (w : Int)) :: cx) ∧ (gt hc 43 (a + 1) w = 16 → zjs hc a (w + 1) = cx) ∧ (gt hc 43 (a + 1) L ≠ 13 → gt hc 43 (a + 1) w = 16 ∧ F_X10_nextOf (a + 1) L hc = some ((w : Int), hc)) ∧
      F_X10_wayOut (a + 1) L hc = some ((w : Int), hc) ∧ F_X12_finishOf 0 a L hr = some (if gt hc 43 (a + 1) w = 15 then (w : Int) else -1, hr) ∧ (gt hc 43 (a + 1) w = 16 → F_X12_endOf 0 a L hr = some ((w : Int), hr)) := by
  obtain ⟨q, a1, a2, a3, a4, a5, a6, a7, a8⟩ := nx1 R hS hq s Ln e
  obtain ⟨e1, e2, e3, e4, e5⟩ := s.e R
  have hz := zF_i
  have a0 := s.1
  obtain ⟨w, m', b1, b2, b3, b4, b5, b6, b7, b8, b9, b10⟩ := wo1 R hS hq s (n - q) L q zF zF zF 0 (Nat.le_refl _) (by omega) (by omega) (by omega) (by omega) (by omega) a2 a3 a4 a7 a8
  refine ⟨w, m', by omega, b2, b3, b4, b5, b6, fun z => ?_, ?_, ?_, fun z => ?_⟩
  · have : gt hc 43 (a + 1) q = 16 := Classical.byContradiction fun y => z (a7 y).2.1
    have wq := b7 this
    rw [wq]; exact ⟨this, a6⟩
  · unfold F_X10_wayOut F_X10_wayOut_0
    rw [if_pos (by omega), a6]; exact b8
  · unfold F_X12_finishOf F_X12_finishOf_0
    rw [if_pos (by decide), a5]; exact b9
  · unfold F_X12_endOf F_X12_endOf_0
    rw [if_pos (by decide), a5]; exact b10 z
/-- a KIND under another -/
theorem s_above {k : Int} (h : zH) (k0 : 0 ≤ k) (k1 : k < 12) : F_X12_above k h = some (zA102.getD k.toNat 0, h) ∧ zA102.getD k.toNat 0 < k ∧ -1 ≤ zA102.getD k.toNat 0 := by
  rcases (show k = 0 ∨ k = 1 ∨ k = 2 ∨ k = 3 ∨ k = 4 ∨ k = 5 ∨ k = 6 ∨ k = 7 ∨ k = 8 ∨ k = 9 ∨ k = 10 ∨ k = 11 by omega) with rfl | rfl | rfl | rfl | rfl | rfl | rfl | rfl | rfl | rfl | rfl | rfl <;> exact ⟨rfl, by decide, by decide⟩
theorem m_under {hc hr : zH} {g : Int} (T : ST hc) (g0 : 0 ≤ g) : ∀ (fc fr : Nat) (k i : Int), -1 ≤ k → k < 12 → k + 1 < fc → k + 1 < fr → 0 ≤ i → i + k < 12 → ∃ u, (u = 0 ∨ u = 1) ∧ F_X11_isUnder_4 fc g k i hc = some (u, hc) ∧ F_X12_isUnder_2 fr g k hr = some (u, hr)
  | 0, fr, k, i, k0, k1, h1, h2, _, _ => by omega
  | fc + 1, 0, k, i, k0, k1, h1, h2, _, _ => by omega
  | fc + 1, fr + 1, k, i, k0, k1, h1, h2, i0, ik => by
    show ∃ u, (u = 0 ∨ u = 1) ∧ F_X11_isUnder_4b (F_X11_isUnder_4 fc) g k i hc = some (u, hc) ∧ F_X12_isUnder_2b (F_X12_isUnder_2 fr) g k hr = some (u, hr)
    unfold F_X11_isUnder_4b F_X12_isUnder_2b F_X12_isUnder_19
    rw [s_within]
    by_cases c : k = -1
    · refine ⟨0, Or.inl rfl, ?_, ?_⟩
      · by_cases q : 12 ≤ i
        · rw [if_pos q]
        · rw [if_neg q, if_neg (by omega)]; rfl
      · rw [if_pos (by omega), if_pos (by omega)]
    · have q : ¬ 12 ≤ i := by omega
      have kw : 0 ≤ k ∧ k < 12 := by omega
      have wi : wI (i + 1) = i + 1 := wI_eq ⟨by omega, by omega⟩
      rw [if_neg q, if_pos kw, if_neg (show ¬ k < 0 by omega)]
      simp only [zb]
      rw [if_neg (by decide)]
      by_cases d : k = g
      · refine ⟨1, Or.inr rfl, ?_, ?_⟩
        · rw [if_neg (by simpa using d)]
        · rw [if_pos d, if_neg (by simpa using d)]
      · obtain ⟨t1, t2, t3⟩ := s_above hr kw.1 kw.2
        rw [if_pos d, if_neg d, T.2.2.1, if_pos kw, T.2.2.2.2 k kw.1 kw.2, t1, wi]
        exact m_under T g0 fc fr _ (i + 1) t3 (by omega) (by omega) (by omega) (by omega) (by omega)
theorem s_under {hc hr : zH} {k g : Int} (T : ST hc) (g0 : 0 ≤ g) (k0 : 0 ≤ k) (k1 : k < 12) : ∃ u, (u = 0 ∨ u = 1) ∧ F_X11_isUnder k g hc = some (u, hc) ∧ F_X12_isUnder k g hr = some (u, hr) := by
  have hz := zF_i
  exact m_under T g0 zF zF k 0 (by omega) k1 (by omega) (by omega) (by omega) (by omega)
/-- the GUARD that has a FAILURE -/
theorem gd1 {hc hr : zH} {a L kd : Int} {n : Nat} {cx : zK} (R : RSx hc hr) (T : ST hc) (hS : SC hc) (hq : PIr hr) (s : zS hc hr a n) (f0 : 0 ≤ gt hr 12 0 53 ∧ gt hr 12 0 53 < 16) (fk : gt hr 83 0 (gt hr 12 0 53) = kd) (kd0 : 0 ≤ kd) (kd1 : kd < 12) : ∀ (d : Nat) (m q : Nat) (fc fr : Nat) (i : Int), n - q ≤ d → d < fc → d < fr → 0 ≤ i → i < q → q < n → zMk (gt hc 43 (a + 1) q) → zjs hc a q = (L, (m : Int)) :: cx → (gt hc 43 (a + 1) q ≠ 16 → zjs hc a (q + 1) = (L, (q : Int)) :: cx ∧ gt hc 43 (a + 1) L = 13 ∧ gt hc 43 (a + 1) m ≠ 15) →
    (F_X10_guardFor_9 fc (a + 1) kd q i hc = some (-1, hc) ∧ F_X12_guardOf_7 fr 0 a q hr = some (-1, hr)) ∨ ∃ g : Nat, q ≤ g ∧ g < n ∧ gt hc 43 (a + 1) g = 14 ∧ zjs hc a (g + 1) = (L, (g : Int)) :: cx ∧ F_X10_guardFor_9 fc (a + 1) kd q i hc = some ((g : Int), hc) ∧ F_X12_guardOf_7 fr 0 a q hr = some ((g : Int), hr)
  | d, m, q, 0, fr, i => by omega
  | d, m, q, fc + 1, 0, i => by omega
  | 0, m, q, fc + 1, fr + 1, i => by omega
  | d + 1, m, q, fc + 1, fr + 1, i => by
    intro h1 h2 h3 i0 iq qn zm e u
    obtain ⟨e1, e2, e3, e4, e5⟩ := s.e R
    have s' := s
    obtain ⟨s1, s2, s3, s4⟩ := s'
    have q40 : q < 40 := by omega
    obtain ⟨ei, eb⟩ := s_ei s1 e1 q40
    have eq := (e4 q qn).1
    have eqa := (e4 q qn).2.1
    have rw1 : ¬ 40 ≤ i := by omega
    obtain ⟨sO, sA, sB, sN⟩ := s_at4 (k := q) hS (show 1 ≤ a + 1 by omega) (show a + 1 ≤ gt hc 11 0 2 by omega) (by omega)
    rw [e3, if_pos ⟨by omega, by omega⟩] at sO sA
    have f1 : F_X10_guardFor_9 (fc + 1) (a + 1) kd q i hc = if gt hc 43 (a + 1) q ≠ 14 then some ((-1), hc) else zb (F_X11_isUnder kd (gt hc 44 (a + 1) q) hc) (fun r6 h6 => if r6 = 0 then (zb (F_X10_nextOf (a + 1) q h6) (fun r8 h8 => F_X10_guardFor_9 fc (a + 1) kd r8 (wI (i + 1)) h8)) else (some ((q : Int), h6))) := by
      show F_X10_guardFor_9b (F_X10_guardFor_9 fc) (a + 1) kd q i hc = _
      unfold F_X10_guardFor_9b
      rw [if_neg rw1, if_pos (by omega), sO]
      simp only [zb, sA]
    have f2 : F_X12_guardOf_7 (fr + 1) 0 a q hr = if gt hc 43 (a + 1) q ≠ 14 then some ((-1), hr) else zb (F_X12_isUnder kd (gt hc 44 (a + 1) q) hr) (fun r8 h8 => if r8 ≠ 0 then (F_X12_guardOf_59 0 a q h8) else (zb (F_X12_behind 0 a q h8) (fun r10 h10 => F_X12_guardOf_7 fr 0 a r10 h10))) := by
      show F_X12_guardOf_7b (F_X12_guardOf_7 fr) 0 a q hr = _
      unfold F_X12_guardOf_7b
      rw [if_pos (by decide), pr_18 hq, if_pos (by decide), ei, if_pos eb, eq]
      by_cases o14 : gt hc 43 (a + 1) q = 14
      · have o15 : ¬ (gt hc 43 (a + 1) q ≠ 14) := by simpa using o14
        rw [if_neg o15, if_neg o15, pr_46 hq, if_pos (by decide), if_pos f0, pr_19 hq, if_pos (by decide), fk, eqa]
      · rw [if_pos o14, if_pos o14]
        unfold F_X12_guardOf_59
        rw [if_pos (by decide), pr_18 hq, if_pos (by decide), ei, if_pos eb, eq, if_pos o14]
    have f59 : gt hc 43 (a + 1) q = 14 → F_X12_guardOf_59 0 a q hr = some ((q : Int), hr) := fun z => by
      unfold F_X12_guardOf_59
      rw [if_pos (by decide), pr_18 hq, if_pos (by decide), ei, if_pos eb, eq, if_neg (by simpa using z)]
    rw [f1, f2]
    by_cases o14 : gt hc 43 (a + 1) q = 14
    · obtain ⟨u1, u2, u3⟩ := u (by omega)
      obtain ⟨q', a1', a2, a3, a4, a5, a6, a7, a8⟩ := nx1 R hS hq s qn u1
      have wi : wI (i + 1) = i + 1 := wI_eq ⟨by omega, by omega⟩
      have d1 : n - q' ≤ d := by omega
      have i2 : i + 1 < q' := by omega
      have ga : 0 ≤ gt hc 44 (a + 1) q := by
        have b := (js_s s4.1 qn).2
        unfold jbad at b
        by_cases w : jwr (gt hc 43 (a + 1) q) (gt hc 44 (a + 1) q) (gt hc 45 (a + 1) q)
        · rw [if_pos w] at b; cases b
        · have w := Classical.byContradiction fun y => w y
          have w := w.2.2.1
          rw [o14] at w
          rcases w with w | w
          · cases w
          · exact w.1
      obtain ⟨v, v0, v1, v2⟩ := s_under (hr := hr) T ga kd0 kd1
      rw [if_neg (by simpa using o14), if_neg (by simpa using o14), v1, v2]
      simp only [zb]
      rcases v0 with rfl | rfl
      · rw [if_pos rfl, if_neg (by decide), a6, a5]
        simp only [zb]
        rw [wi]
        rcases gd1 R T hS hq s f0 fk kd0 kd1 d q q' fc fr (i + 1) d1 (by omega) (by omega) (by omega) i2 a2 a3 a4 a7 with z | ⟨g, g1, g2⟩
        · exact Or.inl z
        · exact Or.inr ⟨g, by omega, g2⟩
      · rw [if_neg (by decide), if_pos (by decide), f59 o14]
        exact Or.inr ⟨q, Nat.le_refl _, qn, o14, u1, rfl, rfl⟩
    · rw [if_pos o14, if_pos o14]
      exact Or.inl ⟨rfl, rfl⟩
theorem gd2 {hc hr : zH} {a kd : Int} {n L : Nat} {cx : zK} (R : RSx hc hr) (T : ST hc) (hS : SC hc) (hq : PIr hr) (s : zS hc hr a n) (f0 : 0 ≤ gt hr 12 0 53 ∧ gt hr 12 0 53 < 16) (fk : gt hr 83 0 (gt hr 12 0 53) = kd) (kd0 : 0 ≤ kd) (kd1 : kd < 12) (Ln : L < n) (e : zjs hc a (L + 1) = ((L : Int), (L : Int)) :: cx) :
    (F_X10_guardFor (a + 1) L kd hc = some (-1, hc) ∧ F_X12_guardOf 0 a L hr = some (-1, hr)) ∨ ∃ g : Nat, L < g ∧ g < n ∧ gt hc 43 (a + 1) g = 14 ∧ zjs hc a (g + 1) = ((L : Int), (g : Int)) :: cx ∧ F_X10_guardFor (a + 1) L kd hc = some ((g : Int), hc) ∧ F_X12_guardOf 0 a L hr = some ((g : Int), hr) := by
  obtain ⟨q, a1, a2, a3, a4, a5, a6, a7, a8⟩ := nx1 R hS hq s Ln e
  obtain ⟨e1, e2, e3, e4, e5⟩ := s.e R
  have hz := zF_i
  have a0 := s.1
  have u1 : F_X10_guardFor (a + 1) L kd hc = F_X10_guardFor_9 zF (a + 1) kd q 0 hc := by
    unfold F_X10_guardFor F_X10_guardFor_0
    rw [if_pos (by omega), a6]; rfl
  have u2 : F_X12_guardOf 0 a L hr = F_X12_guardOf_7 zF 0 a q hr := by
    unfold F_X12_guardOf F_X12_guardOf_0
    rw [if_pos (by decide), a5]; rfl
  rw [u1, u2]
  rcases gd1 R T hS hq s f0 fk kd0 kd1 (n - q) L q zF zF 0 (Nat.le_refl _) (by omega) (by omega) (by omega) (by omega) a2 a3 a4 a7 with z | ⟨g, g1, g2⟩
  · exact Or.inl z
  · exact Or.inr ⟨g, by omega, g2⟩

/-! rows of LOANS that hang on SCOPES, over functions alone -/
def zPv (I : Int → Prop) (o : Int → Int) (l b : Int) : Prop := (b = -1 ∧ ∀ k, I k → o l ≤ o k) ∨ (I b ∧ o b < o l ∧ ∀ k, I k → o k < o l → o k ≤ o b)
def zLa (I : Int → Prop) (o : Int → Int) (b : Int) : Prop := (b = -1 ∧ ∀ k, ¬ I k) ∨ (I b ∧ ∀ k, I k → o k ≤ o b)
abbrev zJo (n : Nat) (op so : Int → Int) (l : Int) : Prop := 0 ≤ l ∧ l < n ∧ op l = 1 ∧ so l ≠ 1
abbrev zIn (n : Nat) (op so sc : Int → Int) (s l : Int) : Prop := zJo n op so l ∧ sc l = s
def DL (n : Nat) (S : Int) (op so sc bf bh la o : Int → Int) : Prop :=
  (∀ k l : Int, 0 ≤ k → k < n → 0 ≤ l → l < n → o k = o l → k = l) ∧
  (∀ l, zJo n op so l → 1 ≤ sc l ∧ sc l ≤ S ∧ zPv (zIn n op so sc (sc l)) o l (bf l) ∧ zPv (zIn n op so sc (sc l)) (fun k => - o k) l (bh l)) ∧
  ∀ s, 1 ≤ s → s ≤ S → zLa (zIn n op so sc s) o (la s)
theorem pv_un {I : Int → Prop} {o : Int → Int} {l a b : Int} (inj : ∀ x y, I x → I y → o x = o y → x = y) (pa : zPv I o l a) (pb : zPv I o l b) : a = b := by
  rcases pa with ⟨a1, a2⟩ | ⟨a1, a2, a3⟩ <;> rcases pb with ⟨b1, b2⟩ | ⟨b1, b2, b3⟩
  · rw [a1, b1]
  · have := a2 b b1; omega
  · have := b2 a a1; omega
  · exact inj a b a1 b1 (by have := a3 b b1 b2; have := b3 a a1 a2; omega)
theorem la_un {I : Int → Prop} {o : Int → Int} {a b : Int} (inj : ∀ x y, I x → I y → o x = o y → x = y) (pa : zLa I o a) (pb : zLa I o b) : a = b := by
  rcases pa with ⟨a1, a2⟩ | ⟨a1, a2⟩ <;> rcases pb with ⟨b1, b2⟩ | ⟨b1, b2⟩
  · rw [a1, b1]
  · exact absurd b1 (a2 b)
  · exact absurd a1 (b2 a)
  · exact inj a b a1 b1 (by have := a2 b b1; have := b2 a a1; omega)
/-- whose predecessor l is, is l's successor -/
theorem pv_sw {I : Int → Prop} {o o' : Int → Int} (ho : ∀ x, o' x = - o x) {l k : Int} (Ik : I k) (pk : zPv I o k l) (Il : I l) (l0 : l ≠ -1) : zPv I o' l k := by
  rcases pk with ⟨a1, a2⟩ | ⟨a1, a2, a3⟩
  · exact absurd a1 l0
  · refine Or.inr ⟨Ik, by rw [ho, ho]; omega, fun j ij hj => ?_⟩
    rw [ho, ho] at hj ⊢
    have := a3 j ij
    omega
theorem pv_rm {I : Int → Prop} {o o' : Int → Int} {l k bk bl nl : Int} (inj : ∀ x y, I x → I y → o x = o y → x = y) (pos : ∀ x, I x → x ≠ -1) (ho : ∀ x, o' x = - o x) (Il : I l) (Ik : I k) (kl : k ≠ l) (pk : zPv I o k bk) (pl : zPv I o l bl) (pn : zPv I o' l nl) :
    zPv (fun x => I x ∧ x ≠ l) o k (if k = nl then bl else bk) := by
  have inj' : ∀ x y, I x → I y → o' x = o' y → x = y := fun x y a b e => inj x y a b (by rw [ho, ho] at e; omega)
  have ne : ∀ j, I j → j ≠ l → o j ≠ o l := fun j ij jl e => jl (inj j l ij Il e)
  by_cases c : bk = l
  · rw [c] at pk
    have q : k = nl := pv_un inj' (pv_sw ho Ik pk Il (pos l Il)) pn
    rw [if_pos q]
    rcases pk with ⟨a1, a2⟩ | ⟨a1, a2, a3⟩
    · exact absurd a1 (pos l Il)
    · rcases pl with ⟨b1, b2⟩ | ⟨b1, b2, b3⟩
      · refine Or.inl ⟨b1, fun j ij => ?_⟩
        have := ne j ij.1 ij.2
        have := a3 j ij.1
        have := b2 j ij.1
        omega
      · refine Or.inr ⟨⟨b1, fun z => by rw [z] at b2; omega⟩, by omega, fun j ij hj => ?_⟩
        have := ne j ij.1 ij.2
        have := a3 j ij.1 hj
        exact b3 j ij.1 (by omega)
  · have q : ¬ k = nl := fun z => by
      rw [← z] at pn
      have := pv_sw (o := o') (o' := o) (fun x => by rw [ho]; omega) Il pn Ik (pos k Ik)
      exact c (pv_un inj pk this)
    rw [if_neg q]
    rcases pk with ⟨a1, a2⟩ | ⟨a1, a2, a3⟩
    · exact Or.inl ⟨a1, fun j ij => a2 j ij.1⟩
    · exact Or.inr ⟨⟨a1, c⟩, a2, fun j ij => a3 j ij.1⟩
theorem la_rm {I : Int → Prop} {o o' : Int → Int} {l m bl nl : Int} (inj : ∀ x y, I x → I y → o x = o y → x = y) (ho : ∀ x, o' x = - o x) (pos : ∀ x, I x → x ≠ -1) (Il : I l) (pl : zPv I o l bl) (pn : zPv I o' l nl) (pm : zLa I o m) : zLa (fun x => I x ∧ x ≠ l) o (if nl = -1 then bl else m) := by
  have ne : ∀ j, I j → j ≠ l → o j ≠ o l := fun j ij jl e => jl (inj j l ij Il e)
  by_cases c : nl = -1
  · rw [if_pos c]
    rcases pn with ⟨a1, a2⟩ | ⟨a1, a2, a3⟩
    · rcases pl with ⟨b1, b2⟩ | ⟨b1, b2, b3⟩
      · refine Or.inl ⟨b1, fun j ij => ?_⟩
        have := ne j ij.1 ij.2
        have q := a2 j ij.1
        rw [ho, ho] at q
        have := b2 j ij.1
        omega
      · refine Or.inr ⟨⟨b1, fun z => by rw [z] at b2; omega⟩, fun j ij => ?_⟩
        have := ne j ij.1 ij.2
        have q := a2 j ij.1
        rw [ho, ho] at q
        exact b3 j ij.1 (by omega)
    · exact absurd c (pos nl a1)
  · rw [if_neg c]
    rcases pm with ⟨a1, a2⟩ | ⟨a1, a2⟩
    · exact absurd Il (a2 l)
    · refine Or.inr ⟨⟨a1, fun z => ?_⟩, fun j ij => a2 j ij.1⟩
      rcases pn with ⟨b1, b2⟩ | ⟨b1, b2, b3⟩
      · exact c b1
      · rw [ho, ho] at b2
        have := a2 nl b1
        rw [z] at this
        omega
/-- a LOAN goes from its SCOPE -/
theorem DL.rm {n : Nat} {S l : Int} {op so sc bf bh la o op' sc' bf' bh' la' : Int → Int} (K : DL n S op so sc bf bh la o) (Jl : zJo n op so l)
    (e1 : ∀ k, op' k = if k = l then 0 else op k) (e2 : ∀ k, k ≠ l → sc' k = sc k) (e3 : ∀ k, k ≠ l → 0 ≤ k → bf' k = if k = bh l then bf l else bf k) (e4 : ∀ k, k ≠ l → 0 ≤ k → bh' k = if k = bf l then bh l else bh k)
    (e5 : ∀ s, 1 ≤ s → la' s = if bh l = -1 ∧ s = sc l then bf l else la s) : DL n S op' so sc' bf' bh' la' o := by
  obtain ⟨k1, k2, k3⟩ := K
  have inj : ∀ s x y, zIn n op so sc s x → zIn n op so sc s y → o x = o y → x = y := fun s x y a b e => k1 x y a.1.1 a.1.2.1 b.1.1 b.1.2.1 e
  have inj' : ∀ s x y, zIn n op so sc s x → zIn n op so sc s y → (fun k => - o k) x = (fun k => - o k) y → x = y := fun s x y a b e => inj s x y a b (by have e : - o x = - o y := e; omega)
  have pos : ∀ s x, zIn n op so sc s x → x ≠ -1 := fun s x a => by have := a.1.1; omega
  have eJ : ∀ k, zJo n op' so k ↔ (zJo n op so k ∧ k ≠ l) := fun k => by
    unfold zJo
    rw [e1 k]
    by_cases c : k = l
    · simp [c]
    · simp [c]
  have eI : ∀ s, zIn n op' so sc' s = fun x => zIn n op so sc s x ∧ x ≠ l := fun s => by
    funext x
    apply propext
    unfold zIn
    rw [eJ x]
    by_cases c : x = l
    · simp [c]
    · simp only [ne_eq, c, not_false_eq_true, and_true]
      rw [e2 x c]
  have eO : ∀ s, s ≠ sc l → (fun x => zIn n op so sc s x ∧ x ≠ l) = zIn n op so sc s := fun s hs => by
    funext x
    apply propext
    constructor
    · exact fun a => a.1
    · exact fun a => ⟨a, fun z => hs (by rw [← a.2, z])⟩
  obtain ⟨l1, l2, l3, l4⟩ := k2 l Jl
  have Il : zIn n op so sc (sc l) l := ⟨Jl, rfl⟩
  have bb : bf l = -1 ∨ zIn n op so sc (sc l) (bf l) := by rcases l3 with z | z; exact Or.inl z.1; exact Or.inr z.1
  have bc : bh l = -1 ∨ zIn n op so sc (sc l) (bh l) := by rcases l4 with z | z; exact Or.inl z.1; exact Or.inr z.1
  refine ⟨k1, fun k Jk => ?_, fun s s1 s2 => ?_⟩
  · obtain ⟨Jk, kl⟩ := (eJ k).mp Jk
    obtain ⟨m1, m2, m3, m4⟩ := k2 k Jk
    have Ik : zIn n op so sc (sc k) k := ⟨Jk, rfl⟩
    rw [e2 k kl, e3 k kl Jk.1, e4 k kl Jk.1, eI]
    refine ⟨m1, m2, ?_⟩
    by_cases c : sc k = sc l
    · rw [c] at m3 m4 Ik ⊢
      exact ⟨pv_rm (inj _) (pos _) (fun _ => rfl) Il Ik kl m3 l3 l4, pv_rm (o := fun k => - o k) (o' := o) (inj' _) (pos _) (fun x => by show o x = - - o x; omega) Il Ik kl m4 l4 l3⟩
    · rw [eO _ c, if_neg, if_neg]
      · exact ⟨m3, m4⟩
      · intro z
        rcases bb with y | y
        · have := Jk.1; omega
        · rw [← z] at y; exact c y.2
      · intro z
        rcases bc with y | y
        · have := Jk.1; omega
        · rw [← z] at y; exact c y.2
  · rw [eI, e5 s s1]
    by_cases c : s = sc l
    · rw [c]
      have := la_rm (inj _) (fun _ => rfl) (pos _) Il l3 l4 (k3 (sc l) l1 l2)
      by_cases d : bh l = -1
      · rw [if_pos d] at this
        rw [if_pos ⟨d, rfl⟩]; exact this
      · rw [if_neg d] at this
        rw [if_neg (fun z => d z.1)]; exact this
    · rw [eO _ c, if_neg (fun z => c z.2)]
      exact k3 s s1 s2
/-- a LOAN comes behind those of a SCOPE -/
theorem DL.ad {n n' : Nat} {S l s v : Int} {op so sc bf bh la o op' so' sc' bf' bh' la' o' : Int → Int} (K : DL n S op so sc bf bh la o) (s1 : 1 ≤ s) (s2 : s ≤ S) (l0 : 0 ≤ l) (ln : l < n') (nn' : n ≤ n') (hn : ∀ k : Int, 0 ≤ k → k < n' → k ≠ l → k < n) (nj : l < n → op l ≠ 1)
    (hv : ∀ k : Int, 0 ≤ k → k < n → k ≠ l → o k < v)
    (e1 : ∀ k, op' k = if k = l then 1 else op k) (e0 : ∀ k, k ≠ l → so' k = so k) (e00 : so' l ≠ 1) (e2 : ∀ k, sc' k = if k = l then s else sc k) (e6 : ∀ k, o' k = if k = l then v else o k)
    (e3 : ∀ k, 0 ≤ k → bf' k = if k = l then la s else bf k) (e4 : ∀ k, 0 ≤ k → bh' k = if k = l then -1 else if k = la s then l else bh k)
    (e5 : ∀ t, 1 ≤ t → la' t = if t = s then l else la t) : DL n' S op' so' sc' bf' bh' la' o' := by
  obtain ⟨k1, k2, k3⟩ := K
  have nI : ∀ t, ¬ zIn n op so sc t l := fun t a => nj a.1.2.1 a.1.2.2.1
  have eJ : ∀ k, zJo n' op' so' k ↔ (zJo n op so k ∨ k = l) := fun k => by
    unfold zJo
    rw [e1 k]
    by_cases c : k = l
    · simp only [c, if_true]
      exact ⟨fun _ => Or.inr trivial, fun _ => ⟨l0, ln, trivial, e00⟩⟩
    · rw [if_neg c, e0 k c]
      constructor
      · rintro ⟨a1, a2, a3, a4⟩
        exact Or.inl ⟨a1, hn k a1 a2 c, a3, a4⟩
      · rintro (⟨a1, a2, a3, a4⟩ | z)
        · exact ⟨a1, by omega, a3, a4⟩
        · exact absurd z c
  have eI : ∀ t x, zIn n' op' so' sc' t x ↔ (zIn n op so sc t x ∨ (t = s ∧ x = l)) := fun t x => by
    unfold zIn
    rw [eJ x, e2 x]
    by_cases c : x = l
    · rw [if_pos c]
      constructor
      · exact fun a => Or.inr ⟨a.2.symm, c⟩
      · rintro (a | a)
        · rw [c] at a; exact absurd a (nI t)
        · exact ⟨Or.inr c, a.1.symm⟩
    · rw [if_neg c]
      constructor
      · rintro ⟨a | a, b⟩
        · exact Or.inl ⟨a, b⟩
        · exact absurd a c
      · rintro (a | a)
        · exact ⟨Or.inl a.1, a.2⟩
        · exact absurd a.2 c
  have xl : ∀ t x, zIn n op so sc t x → x ≠ l := fun t x a z => nI t (by rw [z] at a; exact a)
  have ox : ∀ t x, zIn n op so sc t x → o' x = o x ∧ o x < v := fun t x a => ⟨by rw [e6, if_neg (xl t x a)], hv x a.1.1 a.1.2.1 (xl t x a)⟩
  have ol : o' l = v := by rw [e6, if_pos rfl]
  have L := k3 s s1 s2
  refine ⟨fun x y x0 xn y0 yn e => ?_, fun k Jk => ?_, fun t t1 t2 => ?_⟩
  · rw [e6, e6] at e
    by_cases c : x = l
    · by_cases d : y = l
      · rw [c, d]
      · rw [if_pos c, if_neg d] at e
        have := hv y y0 (hn y y0 yn d) d
        omega
    · by_cases d : y = l
      · rw [if_neg c, if_pos d] at e
        have := hv x x0 (hn x x0 xn c) c
        omega
      · rw [if_neg c, if_neg d] at e
        exact k1 x y x0 (hn x x0 xn c) y0 (hn y y0 yn d) e
  · by_cases c : k = l
    · rw [c, e2, if_pos rfl, e3 l l0, if_pos rfl, e4 l l0, if_pos rfl]
      refine ⟨s1, s2, ?_, Or.inl ⟨rfl, fun x a => ?_⟩⟩
      · rcases L with ⟨a1, a2⟩ | ⟨a1, a2⟩
        · refine Or.inl ⟨a1, fun x a => ?_⟩
          rcases (eI s x).mp a with z | z
          · exact absurd z (a2 x)
          · rw [z.2]; exact Int.le_refl _
        · refine Or.inr ⟨(eI s _).mpr (Or.inl a1), by rw [ol, (ox s _ a1).1]; exact (ox s _ a1).2, fun x a h => ?_⟩
          rcases (eI s x).mp a with z | z
          · rw [(ox s x z).1, (ox s _ a1).1]; exact a2 x z
          · rw [z.2] at h; omega
      · rcases (eI s x).mp a with z | z
        · show - o' l ≤ - o' x
          rw [ol, (ox s x z).1]; have := (ox s x z).2; omega
        · rw [z.2]; exact Int.le_refl _
    · have Jk : zJo n op so k := by rcases (eJ k).mp Jk with z | z; exact z; exact absurd z c
      obtain ⟨m1, m2, m3, m4⟩ := k2 k Jk
      have Ik : zIn n op so sc (sc k) k := ⟨Jk, rfl⟩
      rw [e2, if_neg c, e3 k Jk.1, if_neg c, e4 k Jk.1, if_neg c]
      refine ⟨m1, m2, ?_, ?_⟩
      · rcases m3 with ⟨a1, a2⟩ | ⟨a1, a2, a3⟩
        · refine Or.inl ⟨a1, fun x a => ?_⟩
          rw [(ox _ k Ik).1]
          rcases (eI _ x).mp a with z | z
          · rw [(ox _ x z).1]; exact a2 x z
          · rw [z.2, ol]; have := (ox _ k Ik).2; omega
        · refine Or.inr ⟨(eI _ _).mpr (Or.inl a1), by rw [(ox _ _ a1).1, (ox _ k Ik).1]; exact a2, fun x a h => ?_⟩
          rw [(ox _ k Ik).1] at h
          rw [(ox _ _ a1).1]
          rcases (eI _ x).mp a with z | z
          · rw [(ox _ x z).1] at h ⊢; exact a3 x z h
          · rw [z.2, ol] at h; have := (ox _ k Ik).2; omega
      · by_cases d : k = la s
        · rw [if_pos d]
          have ss : sc k = s := by
            rcases L with ⟨a1, a2⟩ | ⟨a1, a2⟩
            · have := Jk.1; omega
            · rw [d]; exact a1.2
          have mx : ∀ x, zIn n op so sc s x → o x ≤ o k := by
            rcases L with ⟨a1, a2⟩ | ⟨a1, a2⟩
            · exact fun x a => absurd a (a2 x)
            · rw [d]; exact a2
          rw [ss] at Ik ⊢
          refine Or.inr ⟨(eI _ _).mpr (Or.inr ⟨rfl, rfl⟩), ?_, fun x a h => ?_⟩
          · show - o' l < - o' k
            rw [ol, (ox _ k Ik).1]; have := (ox _ k Ik).2; omega
          · show - o' x ≤ - o' l
            have h : - o' x < - o' k := h
            rw [(ox _ k Ik).1] at h
            rcases (eI _ x).mp a with z | z
            · rw [(ox _ x z).1] at h; have := mx x z; omega
            · rw [z.2]; exact Int.le_refl _
        · rw [if_neg d]
          have mk : sc k = s → zIn n op so sc s (la s) ∧ o k < o (la s) := fun ss => by
            rcases L with ⟨a1, a2⟩ | ⟨a1, a2⟩
            · rw [ss] at Ik; exact absurd Ik (a2 k)
            · refine ⟨a1, ?_⟩
              rw [ss] at Ik
              have := a2 k Ik
              have : o k ≠ o (la s) := fun z => d (k1 _ _ Ik.1.1 Ik.1.2.1 a1.1.1 a1.1.2.1 z)
              omega
          rcases m4 with ⟨a1, a2⟩ | ⟨a1, a2, a3⟩
          · refine Or.inl ⟨a1, fun x a => ?_⟩
            show - o' k ≤ - o' x
            rw [(ox _ k Ik).1]
            rcases (eI _ x).mp a with z | z
            · rw [(ox _ x z).1]; exact a2 x z
            · have q := mk z.1
              rw [← z.1] at q
              have := a2 (la (sc k)) q.1
              have this : - o k ≤ - o (la (sc k)) := this
              omega
          · refine Or.inr ⟨(eI _ _).mpr (Or.inl a1), ?_, fun x a h => ?_⟩
            · show - o' (bh k) < - o' k
              rw [(ox _ _ a1).1, (ox _ k Ik).1]; exact a2
            · show - o' x ≤ - o' (bh k)
              have h : - o' x < - o' k := h
              rw [(ox _ k Ik).1] at h
              rw [(ox _ _ a1).1]
              rcases (eI _ x).mp a with z | z
              · rw [(ox _ x z).1] at h ⊢; exact a3 x z h
              · rw [z.2, ol]; have := (ox _ _ a1).2; omega
  · rw [e5 t t1]
    by_cases c : t = s
    · rw [if_pos c, c]
      refine Or.inr ⟨(eI _ _).mpr (Or.inr ⟨rfl, rfl⟩), fun x a => ?_⟩
      rcases (eI _ x).mp a with z | z
      · rw [(ox _ x z).1, ol]; have := (ox _ x z).2; omega
      · rw [z.2]; exact Int.le_refl _
    · rw [if_neg c]
      have L := k3 t t1 t2
      rcases L with ⟨a1, a2⟩ | ⟨a1, a2⟩
      · refine Or.inl ⟨a1, fun x a => ?_⟩
        rcases (eI _ x).mp a with z | z
        · exact a2 x z
        · exact c z.1
      · refine Or.inr ⟨(eI _ _).mpr (Or.inl a1), fun x a => ?_⟩
        rcases (eI _ x).mp a with z | z
        · rw [(ox _ x z).1, (ox _ _ a1).1]; exact a2 x z
        · exact absurd z.1 c
/-- it is looked at where LOANS are, and at those alone that hang -/
theorem DL.cg {n : Nat} {S : Int} {op so sc bf bh la o op' so' sc' bf' bh' la' o' : Int → Int} (K : DL n S op so sc bf bh la o)
    (e : ∀ k : Int, 0 ≤ k → k < n → op' k = op k ∧ so' k = so k ∧ o' k = o k ∧ (zJo n op so k → sc' k = sc k ∧ bf' k = bf k ∧ bh' k = bh k)) (e5 : ∀ t, 1 ≤ t → t ≤ S → la' t = la t) : DL n S op' so' sc' bf' bh' la' o' := by
  obtain ⟨k1, k2, k3⟩ := K
  have eJ : ∀ k, zJo n op' so' k ↔ zJo n op so k := fun k => by
    unfold zJo
    constructor
    · rintro ⟨a1, a2, a3, a4⟩
      have := e k a1 a2
      exact ⟨a1, a2, by rw [← this.1]; exact a3, by rw [← this.2.1]; exact a4⟩
    · rintro ⟨a1, a2, a3, a4⟩
      have := e k a1 a2
      exact ⟨a1, a2, by rw [this.1]; exact a3, by rw [this.2.1]; exact a4⟩
  have eI : ∀ t x, zIn n op' so' sc' t x ↔ zIn n op so sc t x := fun t x => by
    unfold zIn
    rw [eJ x]
    constructor
    · exact fun a => ⟨a.1, by rw [← ((e x a.1.1 a.1.2.1).2.2.2 a.1).1]; exact a.2⟩
    · exact fun a => ⟨a.1, by rw [((e x a.1.1 a.1.2.1).2.2.2 a.1).1]; exact a.2⟩
  have ox : ∀ x, zJo n op so x → o' x = o x := fun x a => (e x a.1 a.2.1).2.2.1
  have pv : ∀ t l b, zJo n op so l → zPv (zIn n op so sc t) o l b → zPv (zIn n op' so' sc' t) o' l b := fun t l b Jl p => by
    rcases p with ⟨a1, a2⟩ | ⟨a1, a2, a3⟩
    · exact Or.inl ⟨a1, fun x a => by rw [ox l Jl, ox x ((eI _ _).mp a).1]; exact a2 x ((eI _ _).mp a)⟩
    · exact Or.inr ⟨(eI _ _).mpr a1, by rw [ox l Jl, ox b a1.1]; exact a2, fun x a h => by
        rw [ox l Jl, ox x ((eI _ _).mp a).1] at h
        rw [ox x ((eI _ _).mp a).1, ox b a1.1]; exact a3 x ((eI _ _).mp a) h⟩
  have pv' : ∀ t l b, zJo n op so l → zPv (zIn n op so sc t) (fun k => - o k) l b → zPv (zIn n op' so' sc' t) (fun k => - o' k) l b := fun t l b Jl p => by
    rcases p with ⟨a1, a2⟩ | ⟨a1, a2, a3⟩
    · refine Or.inl ⟨a1, fun x a => ?_⟩
      show - o' l ≤ - o' x
      rw [ox l Jl, ox x ((eI _ _).mp a).1]; exact a2 x ((eI _ _).mp a)
    · refine Or.inr ⟨(eI _ _).mpr a1, ?_, fun x a h => ?_⟩
      · show - o' b < - o' l
        rw [ox l Jl, ox b a1.1]; exact a2
      · have h : - o' x < - o' l := h
        show - o' x ≤ - o' b
        rw [ox l Jl, ox x ((eI _ _).mp a).1] at h
        rw [ox x ((eI _ _).mp a).1, ox b a1.1]; exact a3 x ((eI _ _).mp a) h
  refine ⟨fun x y x0 xn y0 yn h => ?_, fun k Jk => ?_, fun t t1 t2 => ?_⟩
  · rw [(e x x0 xn).2.2.1, (e y y0 yn).2.2.1] at h
    exact k1 x y x0 xn y0 yn h
  · have Jk := (eJ k).mp Jk
    obtain ⟨f1, f2, f3⟩ := (e k Jk.1 Jk.2.1).2.2.2 Jk
    obtain ⟨m1, m2, m3, m4⟩ := k2 k Jk
    rw [f1, f2, f3]
    exact ⟨m1, m2, pv _ _ _ Jk m3, pv' _ _ _ Jk m4⟩
  · rw [e5 t t1 t2]
    rcases k3 t t1 t2 with ⟨a1, a2⟩ | ⟨a1, a2⟩
    · exact Or.inl ⟨a1, fun x a => a2 x ((eI _ _).mp a)⟩
    · exact Or.inr ⟨(eI _ _).mpr a1, fun x a => by rw [ox x ((eI _ _).mp a).1, ox _ a1.1]; exact a2 x ((eI _ _).mp a)⟩
/-- a SCOPE more, one less -/
theorem DL.up {n : Nat} {S : Int} {op so sc bf bh la o la' : Int → Int} (K : DL n S op so sc bf bh la o) (e : ∀ t, 1 ≤ t → t ≤ S → la' t = la t) (e1 : la' (S + 1) = -1) : DL n (S + 1) op so sc bf bh la' o := by
  obtain ⟨k1, k2, k3⟩ := K
  refine ⟨k1, fun k Jk => ?_, fun t t1 t2 => ?_⟩
  · obtain ⟨m1, m2, m3⟩ := k2 k Jk
    exact ⟨m1, by omega, m3⟩
  · by_cases c : t = S + 1
    · rw [c]
      refine Or.inl ⟨e1, fun x a => ?_⟩
      have := (k2 x a.1).2.1
      have := a.2
      omega
    · rw [e t t1 (by omega)]; exact k3 t t1 (by omega)
theorem DL.dn {n : Nat} {S : Int} {op so sc bf bh la o : Int → Int} (K : DL n S op so sc bf bh la o) (s1 : 1 ≤ S) (e1 : la S = -1) : DL n (S - 1) op so sc bf bh la o := by
  obtain ⟨k1, k2, k3⟩ := K
  refine ⟨k1, fun k Jk => ?_, fun t t1 t2 => k3 t t1 (by omega)⟩
  obtain ⟨m1, m2, m3⟩ := k2 k Jk
  refine ⟨m1, ?_, m3⟩
  have : sc k ≠ S := fun z => by
    rcases k3 S s1 (Int.le_refl _) with ⟨a1, a2⟩ | ⟨a1, a2⟩
    · exact a2 k ⟨Jk, z⟩
    · have := a1.1.1; omega
  omega
/-- a LONG LOAN more -/
theorem DL.lg {n : Nat} {S : Int} {op so sc bf bh la o op' so' sc' bf' bh' o' : Int → Int} (K : DL n S op so sc bf bh la o) (hs : so' n = 1) (hv : ∀ k : Int, 0 ≤ k → k < n → o k < o' n)
    (e : ∀ k : Int, 0 ≤ k → k < n → op' k = op k ∧ so' k = so k ∧ o' k = o k ∧ sc' k = sc k ∧ bf' k = bf k ∧ bh' k = bh k) : DL (n + 1) S op' so' sc' bf' bh' la o' := by
  have K2 : DL n S op' so' sc' bf' bh' la o' := K.cg (fun k a b => ⟨(e k a b).1, (e k a b).2.1, (e k a b).2.2.1, fun _ => (e k a b).2.2.2⟩) (fun _ _ _ => rfl)
  obtain ⟨k1, k2, k3⟩ := K2
  have eJ : ∀ k, zJo (n + 1) op' so' k ↔ zJo n op' so' k := fun k => by
    unfold zJo
    constructor
    · rintro ⟨a1, a2, a3, a4⟩
      refine ⟨a1, ?_, a3, a4⟩
      have : k ≠ n := fun z => a4 (by rw [z]; exact hs)
      omega
    · rintro ⟨a1, a2, a3⟩
      exact ⟨a1, by omega, a3⟩
  have eI : ∀ t, zIn (n + 1) op' so' sc' t = zIn n op' so' sc' t := fun t => by
    funext x
    apply propext
    unfold zIn
    rw [eJ x]
  refine ⟨fun x y x0 xn y0 yn h => ?_, fun k Jk => ?_, fun t t1 t2 => ?_⟩
  · by_cases c : x = n
    · by_cases d : y = n
      · rw [c, d]
      · have := hv y y0 (by omega)
        rw [c, (e y y0 (by omega)).2.2.1] at h
        omega
    · by_cases d : y = n
      · have := hv x x0 (by omega)
        rw [d, (e x x0 (by omega)).2.2.1] at h
        omega
      · exact k1 x y x0 (by omega) y0 (by omega) h
  · rw [eI]; exact k2 k ((eJ k).mp Jk)
  · rw [eI]; exact k3 t t1 t2

def scF (f : Nat → Bool) : Nat → Nat → Nat
  | 0, p => p
  | n + 1, p => if f p then scF f n (p + 1) else p
def sc (f : Nat → Bool) (E p : Nat) : Nat := scF f (E - p) p
section Sc
variable {f : Nat → Bool} {E p : Nat}
theorem sc_at (hp : E ≤ p) : sc f E p = p := by
  unfold sc; rw [show E - p = 0 by omega]; rfl
theorem sc_step (hp : p < E) (hf : f p = true) : sc f E p = sc f E (p + 1) := by
  unfold sc
  rw [show E - p = (E - (p + 1)) + 1 by omega, scF, if_pos hf]
theorem sc_stop (hf : f p = false) : sc f E p = p := by
  by_cases c : E ≤ p
  · exact sc_at c
  · unfold sc
    rw [show E - p = (E - (p + 1)) + 1 by omega, scF, hf]; rfl
theorem sc_all : ∀ m p, E - p ≤ m → p ≤ E → p ≤ sc f E p ∧ sc f E p ≤ E ∧ (sc f E p < E → f (sc f E p) = false) ∧ (∀ q, p ≤ q → q < sc f E p → f q = true) := by
  intro m
  induction m with
  | zero => intro p h1 h2; rw [sc_at (show E ≤ p by omega)]; exact ⟨by omega, by omega, fun z => by omega, fun q _ _ => by omega⟩
  | succ m ih =>
    intro p h1 h2
    by_cases c : E ≤ p
    · rw [sc_at c]; exact ⟨by omega, by omega, fun z => by omega, fun q _ _ => by omega⟩
    · cases hf : f p with
      | false => rw [sc_stop hf]; exact ⟨by omega, by omega, fun _ => hf, fun q _ _ => by omega⟩
      | true =>
        rw [sc_step (by omega) hf]
        obtain ⟨i1, i2, i3, i4⟩ := ih (p + 1) (by omega) (by omega)
        refine ⟨by omega, i2, i3, fun q q1 q2 => ?_⟩
        by_cases e : q = p
        · rw [e]; exact hf
        · exact i4 q (by omega) q2
theorem sc_bd (hp : p ≤ E) : p ≤ sc f E p ∧ sc f E p ≤ E := ⟨(sc_all (E - p) p (by omega) hp).1, (sc_all (E - p) p (by omega) hp).2.1⟩
theorem sc_end (hp : p ≤ E) (hs : sc f E p < E) : f (sc f E p) = false := (sc_all (E - p) p (by omega) hp).2.2.1 hs
theorem sc_in (hp : p ≤ E) : ∀ q, p ≤ q → q < sc f E p → f q = true := (sc_all (E - p) p (by omega) hp).2.2.2
theorem sc_sc (hp : p ≤ E) : sc f E (sc f E p) = sc f E p := by
  by_cases c : sc f E p < E
  · exact sc_stop (sc_end hp c)
  · exact sc_at (by omega)
end Sc
def bl (t : Nat → Int) (p : Nat) : Bool := decide (t p = 32)
def le' (t : Nat → Int) (p : Nat) : Bool := decide (97 ≤ t p ∧ t p ≤ 122)
def dg (t : Nat → Int) (p : Nat) : Bool := decide (48 ≤ t p ∧ t p ≤ 57)
def tv (t : Nat → Int) (E p : Nat) : Int := if p < E then t p else -1
def TB (t : Nat → Int) (E : Nat) : Prop := (E ≤ 400) ∧ (∀ p, p < E → 0 ≤ t p ∧ t p ≤ 255)
theorem TB.e {t : Nat → Int} {E : Nat} (q_ : TB t E) : E ≤ 400 := q_.1
theorem TB.b {t : Nat → Int} {E : Nat} (q_ : TB t E) : ∀ p, p < E → 0 ≤ t p ∧ t p ≤ 255 := q_.2
theorem TB.mk {t : Nat → Int} {E : Nat} (e_ : E ≤ 400) (b_ : ∀ p, p < E → 0 ≤ t p ∧ t p ≤ 255) : TB t E := ⟨e_, b_⟩
def TC (t : Nat → Int) (E : Nat) (h : Hp) : Prop := (h 1 1 = (E : Int)) ∧ (∀ p, p < E → andI (h 2 p) 255 = t p)
theorem TC.e {t : Nat → Int} {E : Nat} {h : Hp} (q_ : TC t E h) : h 1 1 = (E : Int) := q_.1
theorem TC.b {t : Nat → Int} {E : Nat} {h : Hp} (q_ : TC t E h) : ∀ p, p < E → andI (h 2 p) 255 = t p := q_.2
theorem TC.mk {t : Nat → Int} {E : Nat} {h : Hp} (e_ : h 1 1 = (E : Int)) (b_ : ∀ p, p < E → andI (h 2 p) 255 = t p) : TC t E h := ⟨e_, b_⟩
def TM (t : Nat → Int) (E : Nat) (h : Hp) : Prop := (h 83 8 = (E : Int)) ∧ (∀ p, p < E → h 87 p = t p)
theorem TM.e {t : Nat → Int} {E : Nat} {h : Hp} (q_ : TM t E h) : h 83 8 = (E : Int) := q_.1
theorem TM.b {t : Nat → Int} {E : Nat} {h : Hp} (q_ : TM t E h) : ∀ p, p < E → h 87 p = t p := q_.2
theorem TM.mk {t : Nat → Int} {E : Nat} {h : Hp} (e_ : h 83 8 = (E : Int)) (b_ : ∀ p, p < E → h 87 p = t p) : TM t E h := ⟨e_, b_⟩
section Lx
variable {t : Nat → Int} {E p : Nat} {h : Hp} {N : Nat}
theorem hs_self {c k : Nat} {v : Int} (e : h c k = v) : hs h c k v = h := by
  funext c' k'
  by_cases x : c' = c
  · subst x
    by_cases y : k' = k
    · subst y; rw [hs_at, e]
    · rw [hs_slot y]
  · rw [hs_cell x]
theorem hs_hs {c k : Nat} {v w : Int} : hs (hs h c k v) c k w = hs h c k w := by
  funext c' k'
  by_cases x : c' = c
  · subst x
    by_cases y : k' = k
    · subst y; rw [hs_at, hs_at]
    · rw [hs_slot y, hs_slot y, hs_slot y]
  · rw [hs_cell x, hs_cell x, hs_cell x]
theorem TC_fr {h' : Hp} (T : TC t E h) (e1 : h' 1 = h 1) (e2 : h' 2 = h 2) : TC t E h' := TC.mk (by rw [e1]; exact T.e) (by rw [e2]; exact T.b)
theorem TM_fr {h' : Hp} (T : TM t E h) (e1 : h' 83 8 = h 83 8) (e2 : h' 87 = h 87) : TM t E h' := TM.mk (by rw [e1]; exact T.e) (by rw [e2]; exact T.b)
theorem TC_3 {k : Nat} {v : Int} (T : TC t E h) : TC t E (hs h 3 k v) := TC_fr T (hs_cell (by omega)) (hs_cell (by omega))
theorem c_at (B : TB t E) (T : TC t E h) (hp : p ≤ E) : M_Tape_at h (p : Int) = some (tv t E p) := by
  have he := B.e
  have h1 := T.e
  unfold M_Tape_at tv
  rw [h1, if_neg (by rw [ltb_iff (by omega) (by omega) (by omega) (by omega)]; omega)]
  by_cases c : p < E
  · rw [if_neg (by rw [leb_iff (by omega) (by omega) (by omega) (by omega)]; omega), pu_rdN (by omega), pu_bs, T.b p c, if_pos c]
  · rw [if_pos (by rw [leb_iff (by omega) (by omega) (by omega) (by omega)]; omega), if_neg c]
theorem tv_bd (B : TB t E) : -1 ≤ tv t E p ∧ tv t E p ≤ 255 := by
  unfold tv
  by_cases c : p < E
  · have := B.b p c
    rw [if_pos c]; omega
  · rw [if_neg c]; omega
theorem c_skipL (B : TB t E) : ∀ m p n h, E - p ≤ m → m < n → p ≤ E → TC t E h → h 3 2 = (p : Int) → Reader_skipBlanks_L0 N n h = some (hs h 3 2 ((sc (bl t) E p : Nat) : Int)) := by
  have he := B.e
  intro m
  induction m with
  | zero =>
    intro p n h h1 h2 h3 T e
    obtain ⟨n, rfl⟩ : ∃ k, n = k + 1 := ⟨n - 1, by omega⟩
    have te := T.e
    rw [Reader_skipBlanks_L0, if_pos (by rw [te, e, leb_iff (by omega) (by omega) (by omega) (by omega)]; omega), sc_at (by omega), hs_self e]
  | succ m ih =>
    intro p n h h1 h2 h3 T e
    obtain ⟨n, rfl⟩ : ∃ k, n = k + 1 := ⟨n - 1, by omega⟩
    have te := T.e
    by_cases c : E ≤ p
    · rw [Reader_skipBlanks_L0, if_pos (by rw [te, e, leb_iff (by omega) (by omega) (by omega) (by omega)]; omega), sc_at c, hs_self e]
    · have tb := B.b p (by omega)
      rw [Reader_skipBlanks_L0, if_neg (by rw [te, e, leb_iff (by omega) (by omega) (by omega) (by omega)]; omega), e, c_at B T h3, pu_bs]
      unfold tv
      rw [if_pos (show p < E by omega)]
      by_cases c2 : t p = 32
      · rw [if_pos (by rw [eqb_iff (by omega) (by omega) (by omega) (by omega)]; exact c2), pu_lt, ih (p + 1) n (hs h 3 2 ((p : Int) + 1)) (by omega) (by omega) (by omega) (TC_3 T) (by rw [hs_at]; omega), hs_hs, sc_step (p := p) (by omega) (decide_eq_true c2)]
      · rw [if_neg (by rw [eqb_iff (by omega) (by omega) (by omega) (by omega)]; exact c2), sc_stop (decide_eq_false c2), hs_self e]
theorem c_skip (B : TB t E) (hN : 1000 < N) (T : TC t E h) (hp : p ≤ E) (e : h 3 2 = (p : Int)) : M_Reader_skipBlanks N h = some (hs h 3 2 ((sc (bl t) E p : Nat) : Int)) := by
  have he := B.e
  exact c_skipL B (E - p) p N h (by omega) (by omega) hp T e
theorem c_wordL (B : TB t E) : ∀ m p n h, E - p ≤ m → m < n → p ≤ E → TC t E h → h 3 2 = (p : Int) → Reader_readWord_L12 N n h = some (hs h 3 2 ((sc (le' t) E p : Nat) : Int)) := by
  have he := B.e
  intro m
  induction m with
  | zero =>
    intro p n h h1 h2 h3 T e
    obtain ⟨n, rfl⟩ : ∃ k, n = k + 1 := ⟨n - 1, by omega⟩
    have te := T.e
    rw [Reader_readWord_L12, if_pos (by rw [te, e, leb_iff (by omega) (by omega) (by omega) (by omega)]; omega), sc_at (by omega), hs_self e]
  | succ m ih =>
    intro p n h h1 h2 h3 T e
    obtain ⟨n, rfl⟩ : ∃ k, n = k + 1 := ⟨n - 1, by omega⟩
    have te := T.e
    by_cases c : E ≤ p
    · rw [Reader_readWord_L12, if_pos (by rw [te, e, leb_iff (by omega) (by omega) (by omega) (by omega)]; omega), sc_at c, hs_self e]
    · have tb := B.b p (by omega)
      rw [Reader_readWord_L12, if_neg (by rw [te, e, leb_iff (by omega) (by omega) (by omega) (by omega)]; omega), e, c_at B T h3, pu_bs, pu_bs]
      unfold tv
      rw [if_pos (show p < E by omega)]
      by_cases c2 : t p < 97
      · rw [if_pos (by rw [ltb_iff (by omega) (by omega) (by omega) (by omega)]; exact c2), sc_stop (decide_eq_false (by omega)), hs_self e]
      · rw [if_neg (by rw [ltb_iff (by omega) (by omega) (by omega) (by omega)]; exact c2)]
        by_cases c3 : 122 < t p
        · rw [if_pos (by rw [ltb_iff (by omega) (by omega) (by omega) (by omega)]; exact c3), sc_stop (decide_eq_false (by omega)), hs_self e]
        · rw [if_neg (by rw [ltb_iff (by omega) (by omega) (by omega) (by omega)]; exact c3), pu_lt, ih (p + 1) n (hs h 3 2 ((p : Int) + 1)) (by omega) (by omega) (by omega) (TC_3 T) (by rw [hs_at]; omega), hs_hs, sc_step (f := le' t) (p := p) (by omega) (decide_eq_true (by omega))]
theorem c_word (B : TB t E) (hN : 1000 < N) (T : TC t E h) (hp : p ≤ E) (e : h 3 2 = (p : Int)) : M_Reader_readWord N h = some (hs (hs h 3 3 ((sc (bl t) E p : Nat) : Int)) 3 2 ((sc (le' t) E (sc (bl t) E p) : Nat) : Int)) := by
  have he := B.e
  have hb := sc_bd (f := bl t) hp
  unfold M_Reader_readWord
  rw [c_skip B hN T hp e, pu_bs, pu_lt, hs_at, c_wordL B (E - sc (bl t) E p) (sc (bl t) E p) N _ (by omega) (by omega) hb.2 (TC_3 (TC_3 T)) (by rw [hs_slot (by omega), hs_at])]
  refine congrArg some ?_
  funext c k
  by_cases x : c = 3
  · subst x
    by_cases y : k = 2
    · subst y; rw [hs_at, hs_at]
    · rw [hs_slot y, hs_slot y]
      by_cases z : k = 3
      · subst z; rw [hs_at, hs_at]
      · rw [hs_slot z, hs_slot z, hs_slot y]
  · rw [hs_cell x, hs_cell x, hs_cell x, hs_cell x, hs_cell x]
theorem m_hereL (B : TB t E) : ∀ m p n h, E - p ≤ m → m < n → p ≤ E → TM t E h → h 83 9 = (p : Int) → Md_here_L0 N n h = some (((sc (bl t) E p : Nat) : Int), hs h 83 9 ((sc (bl t) E p : Nat) : Int)) := by
  have he := B.e
  intro m
  induction m with
  | zero =>
    intro p n h h1 h2 h3 T e
    obtain ⟨n, rfl⟩ : ∃ k, n = k + 1 := ⟨n - 1, by omega⟩
    have te := T.e
    rw [Md_here_L0, if_pos (by rw [te, e, leb_iff (by omega) (by omega) (by omega) (by omega)]; omega), sc_at (by omega), hs_self e, e]
  | succ m ih =>
    intro p n h h1 h2 h3 T e
    obtain ⟨n, rfl⟩ : ∃ k, n = k + 1 := ⟨n - 1, by omega⟩
    have te := T.e
    by_cases c : E ≤ p
    · rw [Md_here_L0, if_pos (by rw [te, e, leb_iff (by omega) (by omega) (by omega) (by omega)]; omega), sc_at c, hs_self e, e]
    · have tb := B.b p (by omega)
      rw [Md_here_L0, if_neg (by rw [te, e, leb_iff (by omega) (by omega) (by omega) (by omega)]; omega), e, pu_rdN (by omega), pu_bs, T.b p (by omega)]
      by_cases c2 : t p = 32
      · rw [if_pos (by rw [eqb_iff (by omega) (by omega) (by omega) (by omega)]; exact c2), pu_lt, ih (p + 1) n (hs h 83 9 ((p : Int) + 1)) (by omega) (by omega) (by omega) (TM_fr T (hs_slot (by omega)) (hs_cell (by omega))) (by rw [hs_at]; omega), hs_hs, sc_step (p := p) (by omega) (decide_eq_true c2)]
      · rw [if_neg (by rw [eqb_iff (by omega) (by omega) (by omega) (by omega)]; exact c2), sc_stop (decide_eq_false c2), hs_self e]
theorem m_here (B : TB t E) (hN : 1000 < N) (T : TM t E h) (hp : p ≤ E) (e : h 83 9 = (p : Int)) : M_Md_here N h = some (((sc (bl t) E p : Nat) : Int), hs h 83 9 ((sc (bl t) E p : Nat) : Int)) := by
  have he := B.e
  exact m_hereL B (E - p) p N h (by omega) (by omega) hp T e
end Lx

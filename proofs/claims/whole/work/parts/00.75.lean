def allW (t : Nat → Int) (b : Nat) (w : List Int) : Prop := ∀ j, j < w.length → t (b + j) = w.getD j 0
def hasW (t : Nat → Int) (b e : Nat) (w : List Int) : Prop := e = b + w.length ∧ allW t b w
section Ly
variable {t : Nat → Int} {E p b e : Nat} {h : Hp} {N : Nat}
theorem txt_bd {w : Nat} {j : Nat} (hw : w < 36) (hj : j < (txS w).length) : 97 ≤ (txS w).getD j 0 ∧ (txS w).getD j 0 ≤ 122 ∧ (txS w).length ≤ 6 := by
  have a : ∀ w : Fin 36, ∀ j : Fin 6, (txS w.val).length ≤ 6 ∧ (j.val < (txS w.val).length → 97 ≤ (txS w.val).getD j.val 0 ∧ (txS w.val).getD j.val 0 ≤ 122) := by decide +kernel
  have a6 := (a ⟨w, hw⟩ 0).1
  have a1 := (a ⟨w, hw⟩ ⟨j, Nat.lt_of_lt_of_le hj a6⟩).2 hj
  exact ⟨a1.1, a1.2, a6⟩
theorem len_bd {w : Nat} (hw : w < 36) : 1 ≤ (txS w).length ∧ (txS w).length ≤ 6 := by
  have a : ∀ w : Fin 36, 1 ≤ (txS w.val).length ∧ (txS w.val).length ≤ 6 := by decide +kernel
  exact a ⟨w, hw⟩
theorem chS_at {w j : Nat} (hj : j < (txS w).length) : chS w (j : Int) = some ((txS w).getD j 0) := by
  unfold chS lnS
  rw [if_pos (by omega)]; rfl
theorem c_isWord (B : TB t E) (hN : 1000 < N) (T : TC t E h) {w : Nat} (hw : w < 36) (e3 : h 3 3 = (b : Int)) (e2 : h 3 2 = (e : Int)) (hbe : b ≤ e) (he : e ≤ E) : ∃ r : Int, M_Reader_isWord N h w = some r ∧ ((r = 1 ∧ hasW t b e (txS w)) ∨ (r = 0 ∧ ¬ hasW t b e (txS w))) := by
  have hE := B.e
  have hl := len_bd hw
  unfold M_Reader_isWord hasW
  rw [e2, e3]
  by_cases c : e = b + (txS w).length
  · rw [if_pos (by unfold lnS; rw [eqb_iff (by omega) (by omega) (by omega) (by omega)]; omega)]
    obtain ⟨r, r1, r2⟩ := lp_inv (fun n k (_ : Unit) => Reader_isWord_L20 N h w n k) (fun k _ => ∀ j, j < k → t (b + j) = (txS w).getD j 0) (fun r : Int => (r = 1 ∧ allW t b (txS w)) ∨ (r = 0 ∧ ¬ allW t b (txS w))) (txS w).length
      (fun n k _ hk hp => by
        have tb := B.b (b + k) (by omega)
        have xb := txt_bd hw hk
        have eat : (b : Int) + (k : Int) = ((b + k : Nat) : Int) := by omega
        have hat : M_Tape_at h (h 3 3 + (k : Int)) = some (t (b + k)) := by
          rw [e3, eat, c_at B T (by omega)]; unfold tv; rw [if_pos (by omega)]
        by_cases c2 : t (b + k) = (txS w).getD k 0
        · refine Or.inl ⟨(), fun j hj => ?_, ?_⟩
          · by_cases ej : j = k
            · rw [ej]; exact c2
            · exact hp j (by omega)
          · rw [Reader_isWord_L20, if_neg (by unfold lnS; rw [leb_iff (by omega) (by omega) (by omega) (by omega)]; omega), hat, pu_bs, chS_at hk, pu_bs, if_pos (by rw [eqb_iff (by omega) (by omega) (by omega) (by omega)]; exact c2)]
        · refine Or.inr ⟨0, ?_, Or.inr ⟨rfl, fun z => c2 (z k hk)⟩⟩
          rw [Reader_isWord_L20, if_neg (by unfold lnS; rw [leb_iff (by omega) (by omega) (by omega) (by omega)]; omega), hat, pu_bs, chS_at hk, pu_bs, if_neg (by rw [eqb_iff (by omega) (by omega) (by omega) (by omega)]; exact c2)]
          exact pu_c0 _)
      (fun n _ hp => ⟨1, by
        rw [Reader_isWord_L20, if_pos (by unfold lnS; rw [leb_iff (by omega) (by omega) (by omega) (by omega)]; omega)]
        exact pu_c1 _, Or.inl ⟨rfl, hp⟩⟩) N 0 () (by omega) (by omega) (fun j hj => by omega)
    refine ⟨r, r1, ?_⟩
    rcases r2 with z | z
    · exact Or.inl ⟨z.1, c, z.2⟩
    · exact Or.inr ⟨z.1, fun y => z.2 y.2⟩
  · rw [if_neg (by unfold lnS; rw [eqb_iff (by omega) (by omega) (by omega) (by omega)]; omega)]
    exact ⟨0, pu_c0 _, Or.inr ⟨rfl, fun y => c y.1⟩⟩
theorem m_hasL (B : TB t E) (T : TM t E h) {w : Nat} {k : Int → Option (Int × Hp)} : ∀ m p n, E - p ≤ m → m < n → p ≤ E → Md_has_L5 N h w k n (p : Int) = k ((sc (le' t) E p : Nat) : Int) := by
  have he := B.e
  have te := T.e
  intro m
  induction m with
  | zero =>
    intro p n h1 h2 h3
    obtain ⟨n, rfl⟩ : ∃ k, n = k + 1 := ⟨n - 1, by omega⟩
    rw [Md_has_L5, if_pos (by rw [te, leb_iff (by omega) (by omega) (by omega) (by omega)]; omega), sc_at (by omega)]
  | succ m ih =>
    intro p n h1 h2 h3
    obtain ⟨n, rfl⟩ : ∃ k, n = k + 1 := ⟨n - 1, by omega⟩
    by_cases c : E ≤ p
    · rw [Md_has_L5, if_pos (by rw [te, leb_iff (by omega) (by omega) (by omega) (by omega)]; omega), sc_at c]
    · have tb := B.b p (by omega)
      rw [Md_has_L5, if_neg (by rw [te, leb_iff (by omega) (by omega) (by omega) (by omega)]; omega), pu_rdN (by omega), pu_bs, T.b p (by omega), m_isIn (by omega) (by omega) (by omega) (by omega) (by omega) (by omega), pu_bs]
      by_cases c2 : 97 ≤ t p ∧ t p ≤ 122
      · rw [if_pos c2, if_neg ne10, show (p : Int) + 1 = ((p + 1 : Nat) : Int) by omega, ih (p + 1) n (by omega) (by omega) (by omega), sc_step (f := le' t) (p := p) (by omega) (decide_eq_true c2)]
      · rw [if_neg c2, if_pos eq00, sc_stop (f := le' t) (decide_eq_false c2)]
theorem m_has (B : TB t E) (hN : 1000 < N) (T : TM t E h) {w : Nat} (hw : w < 36) (hp : p ≤ E) (e9 : h 83 9 = (p : Int)) (hf : -1 ≤ h 83 10 ∧ h 83 10 ≤ 400) :
    ∃ r : Int × Hp, M_Md_has N h w = some r ∧ ((h 83 10 = -1 ∧ hasW t (sc (bl t) E p) (sc (le' t) E (sc (bl t) E p)) (txS w) ∧ r = (1, hs h 83 9 ((sc (le' t) E (sc (bl t) E p) : Nat) : Int))) ∨ (¬ (h 83 10 = -1 ∧ hasW t (sc (bl t) E p) (sc (le' t) E (sc (bl t) E p)) (txS w)) ∧ r = (0, hs h 83 9 ((sc (bl t) E p : Nat) : Int)))) := by
  have hE := B.e
  have hl := len_bd hw
  have hb := sc_bd (f := bl t) hp
  have he := sc_bd (f := le' t) hb.2
  unfold M_Md_has
  rw [m_here B hN T hp e9, pu_bs]
  generalize sc (bl t) E p = b at *
  dsimp only
  have TG : TM t E (hs h 83 9 (b : Int)) := TM_fr T (hs_slot (by omega)) (hs_cell (by omega))
  rw [m_hasL B TG (E - b) b N (by omega) (by omega) hb.2]
  generalize sc (le' t) E b = e at *
  have e10 : hs h 83 9 (b : Int) 83 10 = h 83 10 := hs_slot (by omega)
  have e9' : hs h 83 9 (b : Int) 83 9 = (b : Int) := hs_at
  by_cases c0 : h 83 10 = -1
  · rw [if_pos (by rw [e10, eqb_iff (by omega) (by omega) (by omega) (by omega)]; exact c0)]
    by_cases c : e = b + (txS w).length
    · rw [if_pos (by unfold lnS; rw [e9', eqb_iff (by omega) (by omega) (by omega) (by omega)]; omega)]
      obtain ⟨r, r1, r2⟩ := lp_inv (fun n k (_ : Unit) => Md_has_L60 N (hs h 83 9 (b : Int)) (e : Int) w n k) (fun k _ => ∀ j, j < k → t (b + j) = (txS w).getD j 0) (fun r : Int × Hp => (r = (1, hs h 83 9 (e : Int)) ∧ allW t b (txS w)) ∨ (r = (0, hs h 83 9 (b : Int)) ∧ ¬ allW t b (txS w))) (txS w).length
        (fun n k _ hk hp => by
          have tb := B.b (b + k) (by omega)
          have xb := txt_bd hw hk
          have eat : (b : Int) + (k : Int) = ((b + k : Nat) : Int) := by omega
          by_cases c2 : t (b + k) = (txS w).getD k 0
          · refine Or.inl ⟨(), fun j hj => ?_, ?_⟩
            · by_cases ej : j = k
              · rw [ej]; exact c2
              · exact hp j (by omega)
            · rw [Md_has_L60, if_neg (by unfold lnS; rw [leb_iff (by omega) (by omega) (by omega) (by omega)]; omega), e9', eat, pu_rdN (by omega), pu_bs, TG.b (b + k) (by omega), chS_at hk, pu_bs, if_pos (by rw [eqb_iff (by omega) (by omega) (by omega) (by omega)]; exact c2)]
          · refine Or.inr ⟨(0, hs h 83 9 (b : Int)), ?_, Or.inr ⟨rfl, fun z => c2 (z k hk)⟩⟩
            rw [Md_has_L60, if_neg (by unfold lnS; rw [leb_iff (by omega) (by omega) (by omega) (by omega)]; omega), e9', eat, pu_rdN (by omega), pu_bs, TG.b (b + k) (by omega), chS_at hk, pu_bs, if_neg (by rw [eqb_iff (by omega) (by omega) (by omega) (by omega)]; exact c2), pu_c0])
        (fun n _ hp => ⟨(1, hs h 83 9 (e : Int)), by
          rw [Md_has_L60, if_pos (by unfold lnS; rw [leb_iff (by omega) (by omega) (by omega) (by omega)]; omega), pu_lt, hs_hs, pu_c1], Or.inl ⟨rfl, hp⟩⟩) N 0 () (by omega) (by omega) (fun j hj => by omega)
      refine ⟨r, r1, ?_⟩
      rcases r2 with z | z
      · exact Or.inl ⟨c0, ⟨c, z.2⟩, z.1⟩
      · exact Or.inr ⟨fun y => z.2 y.2.2, z.1⟩
    · rw [if_neg (by unfold lnS; rw [e9', eqb_iff (by omega) (by omega) (by omega) (by omega)]; omega)]
      exact ⟨(0, hs h 83 9 (b : Int)), pu_c0 _, Or.inr ⟨fun y => c y.2.1, rfl⟩⟩
  · rw [if_neg (by rw [e10, eqb_iff (by omega) (by omega) (by omega) (by omega)]; exact c0)]
    exact ⟨(0, hs h 83 9 (b : Int)), pu_c0 _, Or.inr ⟨fun y => c0 y.1, rfl⟩⟩
theorem c_req {a : Int} (ha : a = 0 ∨ a = 1) (hw : -1 ≤ h 3 4 ∧ h 3 4 ≤ 400) : M_Reader_require h a = some (if a = 0 ∧ h 3 4 = -1 then hs h 3 4 (h 3 3) else h) := by
  unfold M_Reader_require
  rcases ha with e | e
  · subst e
    rw [if_pos eq00]
    by_cases c : h 3 4 = -1
    · rw [if_pos (by rw [eqb_iff (by omega) (by omega) (by omega) (by omega)]; exact c), if_pos ⟨rfl, c⟩, pu_lt]
    · rw [if_neg (by rw [eqb_iff (by omega) (by omega) (by omega) (by omega)]; exact c), if_neg (fun z => c z.2)]
  · subst e
    rw [if_neg ne10, if_neg (fun z => by omega)]
theorem m_wrong {a : Int} (hw : -1 ≤ h 83 10 ∧ h 83 10 ≤ 400) : M_Md_wrong h a = some (if h 83 10 = -1 then hs h 83 10 a else h) := by
  unfold M_Md_wrong
  by_cases c : h 83 10 = -1
  · rw [if_pos (by rw [eqb_iff (by omega) (by omega) (by omega) (by omega)]; exact c), if_pos c, pu_lt]
  · rw [if_neg (by rw [eqb_iff (by omega) (by omega) (by omega) (by omega)]; exact c), if_neg c]
theorem c_isDigit {a : Int} (ha : -1 ≤ a ∧ a ≤ 255) : M_Reader_isDigit a = some (if 48 ≤ a ∧ a ≤ 57 then 1 else 0) := by
  unfold M_Reader_isDigit
  by_cases c1 : a < 48
  · rw [if_pos (by rw [ltb_iff (by omega) (by omega) (by omega) (by omega)]; exact c1), if_neg (by omega)]; exact pu_c0 _
  · rw [if_neg (by rw [ltb_iff (by omega) (by omega) (by omega) (by omega)]; exact c1)]
    by_cases c2 : 57 < a
    · rw [if_pos (by rw [ltb_iff (by omega) (by omega) (by omega) (by omega)]; exact c2), if_neg (by omega)]; exact pu_c0 _
    · rw [if_neg (by rw [ltb_iff (by omega) (by omega) (by omega) (by omega)]; exact c2), if_pos (by omega)]; exact pu_c1 _
end Ly

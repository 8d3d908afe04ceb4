def rowU (h : Hp) (j : Nat) : Nat → Int := fun k => if k < 127 then h 85 (127 * j + k) else 0
def rowAt (h : Hp) (j : Nat) : Nat → Int := if (j : Int) = h 83 3 then h 84 else rowU h j
def apU (b : Nat → Int) (kd f m v : Int) : Nat → Int := if kd = 0 then pu_up b (43 + 7 * f.toNat + 0) v else if kd = 1 then pu_up b (43 + 7 * f.toNat + 4) v else if kd = 2 then pu_up (pu_up b (43 + 7 * f.toNat + 2) m) (43 + 7 * f.toNat + 3) v else pu_up b 16 v
def PaJ (h : Hp) (j : Nat) : Prop := (OkB (rowU h j)) ∧ (rowU h j 42 = h 84 42) ∧ (0 ≤ h 62 j ∧ h 62 j ≤ 3) ∧ (h 62 j ≤ 2 → 0 ≤ h 63 j ∧ h 63 j < h 84 42) ∧ (-1000 ≤ h 65 j ∧ h 65 j ≤ 1000) ∧ (-1 ≤ h 64 j ∧ h 64 j ≤ 100) ∧ (rowU h j = apU (rowAt h (j + 1)) (h 62 j) (h 63 j) (h 64 j) (h 65 j))
theorem PaJ.ok {h : Hp} {j : Nat} (q_ : PaJ h j) : OkB (rowU h j) := q_.1
theorem PaJ.mn {h : Hp} {j : Nat} (q_ : PaJ h j) : rowU h j 42 = h 84 42 := q_.2.1
theorem PaJ.kd {h : Hp} {j : Nat} (q_ : PaJ h j) : 0 ≤ h 62 j ∧ h 62 j ≤ 3 := q_.2.2.1
theorem PaJ.fe {h : Hp} {j : Nat} (q_ : PaJ h j) : h 62 j ≤ 2 → 0 ≤ h 63 j ∧ h 63 j < h 84 42 := q_.2.2.2.1
theorem PaJ.vl {h : Hp} {j : Nat} (q_ : PaJ h j) : -1000 ≤ h 65 j ∧ h 65 j ≤ 1000 := q_.2.2.2.2.1
theorem PaJ.mo {h : Hp} {j : Nat} (q_ : PaJ h j) : -1 ≤ h 64 j ∧ h 64 j ≤ 100 := q_.2.2.2.2.2.1
theorem PaJ.eq {h : Hp} {j : Nat} (q_ : PaJ h j) : rowU h j = apU (rowAt h (j + 1)) (h 62 j) (h 63 j) (h 64 j) (h 65 j) := q_.2.2.2.2.2.2
theorem PaJ.mk {h : Hp} {j : Nat} (ok_ : OkB (rowU h j)) (mn_ : rowU h j 42 = h 84 42) (kd_ : 0 ≤ h 62 j ∧ h 62 j ≤ 3) (fe_ : h 62 j ≤ 2 → 0 ≤ h 63 j ∧ h 63 j < h 84 42) (vl_ : -1000 ≤ h 65 j ∧ h 65 j ≤ 1000) (mo_ : -1 ≤ h 64 j ∧ h 64 j ≤ 100) (eq_ : rowU h j = apU (rowAt h (j + 1)) (h 62 j) (h 63 j) (h 64 j) (h 65 j)) : PaJ h j := ⟨ok_, mn_, kd_, fe_, vl_, mo_, eq_⟩
def Pa (h : Hp) : Prop := (h 61 0 = h 83 3) ∧ (0 ≤ h 83 3) ∧ (h 83 3 ≤ 8) ∧ (0 < h 83 3 → OkB (h 84)) ∧ (∀ j : Nat, (j : Int) < h 83 3 → PaJ h j)
theorem Pa.sz {h : Hp} (q_ : Pa h) : h 61 0 = h 83 3 := q_.1
theorem Pa.lo {h : Hp} (q_ : Pa h) : 0 ≤ h 83 3 := q_.2.1
theorem Pa.hi {h : Hp} (q_ : Pa h) : h 83 3 ≤ 8 := q_.2.2.1
theorem Pa.ok {h : Hp} (q_ : Pa h) : 0 < h 83 3 → OkB (h 84) := q_.2.2.2.1
theorem Pa.js {h : Hp} (q_ : Pa h) : ∀ j : Nat, (j : Int) < h 83 3 → PaJ h j := q_.2.2.2.2
theorem Pa.mk {h : Hp} (sz_ : h 61 0 = h 83 3) (lo_ : 0 ≤ h 83 3) (hi_ : h 83 3 ≤ 8) (ok_ : 0 < h 83 3 → OkB (h 84)) (js_ : ∀ j : Nat, (j : Int) < h 83 3 → PaJ h j) : Pa h := ⟨sz_, lo_, hi_, ok_, js_⟩
def Img (h : Hp) : Prop := (h 0 7 = 0 ∧ h 83 5 = 0 ∧ ∀ k, 127 ≤ k → h 86 k = 0) ∨ (h 0 7 = 1 ∧ h 83 5 = 1 ∧ (OkB (h 86) ∨ NoB (h 86)) ∧ CB (h 86) h 42 ∧ ∀ k, 127 ≤ k → h 86 k = 0)
def Tp (h : Hp) : Prop := (h 1 1 = h 83 7) ∧ (0 ≤ h 83 7) ∧ (h 83 7 ≤ 400) ∧ (∀ i : Nat, (i : Int) < h 83 7 → h 87 i = andI (h 2 i) 255 ∧ 0 ≤ h 87 i ∧ h 87 i ≤ 255)
theorem Tp.sz {h : Hp} (q_ : Tp h) : h 1 1 = h 83 7 := q_.1
theorem Tp.lo {h : Hp} (q_ : Tp h) : 0 ≤ h 83 7 := q_.2.1
theorem Tp.hi {h : Hp} (q_ : Tp h) : h 83 7 ≤ 400 := q_.2.2.1
theorem Tp.by_ {h : Hp} (q_ : Tp h) : ∀ i : Nat, (i : Int) < h 83 7 → h 87 i = andI (h 2 i) 255 ∧ 0 ≤ h 87 i ∧ h 87 i ≤ 255 := q_.2.2.2
theorem Tp.mk {h : Hp} (sz_ : h 1 1 = h 83 7) (lo_ : 0 ≤ h 83 7) (hi_ : h 83 7 ≤ 400) (by__ : ∀ i : Nat, (i : Int) < h 83 7 → h 87 i = andI (h 2 i) 255 ∧ 0 ≤ h 87 i ∧ h 87 i ≤ 255) : Tp h := ⟨sz_, lo_, hi_, by__⟩
def Inv (h : Hp) : Prop := (OkB (h 84) ∨ NoB (h 84)) ∧ (∀ k, 127 ≤ k → h 84 k = 0) ∧ (CB (h 84) h 23) ∧ (OkB (h 84) → PlanOk (h 84) h) ∧ (OkB (h 84) → RoundOk (h 84) h) ∧ (Img h) ∧ (Tp h) ∧ (h 0 8 = h 83 10 ∧ -1 ≤ h 83 10 ∧ h 83 10 ≤ 400) ∧ (Pa h)
theorem Inv.bok {h : Hp} (q_ : Inv h) : OkB (h 84) ∨ NoB (h 84) := q_.1
theorem Inv.z84 {h : Hp} (q_ : Inv h) : ∀ k, 127 ≤ k → h 84 k = 0 := q_.2.1
theorem Inv.cb {h : Hp} (q_ : Inv h) : CB (h 84) h 23 := q_.2.2.1
theorem Inv.pl {h : Hp} (q_ : Inv h) : OkB (h 84) → PlanOk (h 84) h := q_.2.2.2.1
theorem Inv.ro {h : Hp} (q_ : Inv h) : OkB (h 84) → RoundOk (h 84) h := q_.2.2.2.2.1
theorem Inv.img {h : Hp} (q_ : Inv h) : Img h := q_.2.2.2.2.2.1
theorem Inv.tp {h : Hp} (q_ : Inv h) : Tp h := q_.2.2.2.2.2.2.1
theorem Inv.fa {h : Hp} (q_ : Inv h) : h 0 8 = h 83 10 ∧ -1 ≤ h 83 10 ∧ h 83 10 ≤ 400 := q_.2.2.2.2.2.2.2.1
theorem Inv.pa {h : Hp} (q_ : Inv h) : Pa h := q_.2.2.2.2.2.2.2.2
theorem Inv.mk {h : Hp} (bok_ : OkB (h 84) ∨ NoB (h 84)) (z84_ : ∀ k, 127 ≤ k → h 84 k = 0) (cb_ : CB (h 84) h 23) (pl_ : OkB (h 84) → PlanOk (h 84) h) (ro_ : OkB (h 84) → RoundOk (h 84) h) (img_ : Img h) (tp_ : Tp h) (fa_ : h 0 8 = h 83 10 ∧ -1 ≤ h 83 10 ∧ h 83 10 ≤ 400) (pa_ : Pa h) : Inv h := ⟨bok_, z84_, cb_, pl_, ro_, img_, tp_, fa_, pa_⟩
theorem Inv_frame {h h' : Hp} (i : Inv h) (e : ∀ c, (c < 3 ∨ 22 < c) → c ≠ 82 → c ≠ 83 → (c < 88 ∨ 96 < c) → h' c = h c) (e3 : h' 83 3 = h 83 3) (e5 : h' 83 5 = h 83 5) (e7 : h' 83 7 = h 83 7) (e10 : h' 83 10 = h 83 10) : Inv h' := by
  have q : ∀ c, (c < 3 ∨ 22 < c) → c ≠ 82 → c ≠ 83 → (c < 88 ∨ 96 < c) → h' c = h c := e
  have q84 : h' 84 = h 84 := e 84 (by omega) (by omega) (by omega) (by omega)
  have q85 : h' 85 = h 85 := e 85 (by omega) (by omega) (by omega) (by omega)
  have hU : ∀ j, rowU h' j = rowU h j := fun j => by unfold rowU; rw [q85]
  have hA : ∀ j, rowAt h' j = rowAt h j := fun j => by unfold rowAt; rw [e3, q84, hU]
  refine Inv.mk ?_ ?_ ?_ ?_ ?_ ?_ ?_ ?_ ?_
  · rw [q84]; exact i.bok
  · rw [q84]; exact i.z84
  · rw [q84]; exact CB_frame i.cb (fun c c1 c2 => e c (by omega) (by omega) (by omega) (by omega))
  · rw [q84]; intro ok; exact PlanOk_frame (fun c c1 c2 => e c (by omega) (by omega) (by omega) (by omega)) (i.pl ok)
  · rw [q84]; intro ok
    have r := i.ro ok
    refine RoundOk.mk (RB.mk ?_ ?_ ?_) ?_ ?_
    · rw [e 73 (by omega) (by omega) (by omega) (by omega)]; exact r.rb.yrs
    · rw [e 74 (by omega) (by omega) (by omega) (by omega)]; exact r.rb.oft
    · rw [e 75 (by omega) (by omega) (by omega) (by omega)]; exact r.rb.fst
    · unfold RS; rw [e 73 (by omega) (by omega) (by omega) (by omega), e 76 (by omega) (by omega) (by omega) (by omega), e 77 (by omega) (by omega) (by omega) (by omega), e 78 (by omega) (by omega) (by omega) (by omega)]; exact r.rs
    · unfold RM; rw [e 73 (by omega) (by omega) (by omega) (by omega), e 79 (by omega) (by omega) (by omega) (by omega), e 80 (by omega) (by omega) (by omega) (by omega), e 81 (by omega) (by omega) (by omega) (by omega)]; exact r.rm
  · unfold Img
    rw [e 0 (by omega) (by omega) (by omega) (by omega), e5, e 86 (by omega) (by omega) (by omega) (by omega)]
    rcases i.img with x | ⟨x1, x2, x3, x4, x5⟩
    · exact Or.inl x
    · exact Or.inr ⟨x1, x2, x3, CB_frame x4 (fun c c1 c2 => e c (by omega) (by omega) (by omega) (by omega)), x5⟩
  · refine Tp.mk ?_ ?_ ?_ ?_
    · rw [e 1 (by omega) (by omega) (by omega) (by omega), e7]; exact i.tp.sz
    · rw [e7]; exact i.tp.lo
    · rw [e7]; exact i.tp.hi
    · rw [e7, e 87 (by omega) (by omega) (by omega) (by omega), e 2 (by omega) (by omega) (by omega) (by omega)]; exact i.tp.by_
  · rw [e 0 (by omega) (by omega) (by omega) (by omega), e10]; exact i.fa
  · refine Pa.mk ?_ ?_ ?_ ?_ ?_
    · rw [e 61 (by omega) (by omega) (by omega) (by omega), e3]; exact i.pa.sz
    · rw [e3]; exact i.pa.lo
    · rw [e3]; exact i.pa.hi
    · rw [e3, q84]; exact i.pa.ok
    · rw [e3]; intro j hj
      have p := i.pa.js j hj
      refine PaJ.mk ?_ ?_ ?_ ?_ ?_ ?_ ?_
      · rw [hU]; exact p.ok
      · rw [hU, q84]; exact p.mn
      · rw [e 62 (by omega) (by omega) (by omega) (by omega)]; exact p.kd
      · rw [e 62 (by omega) (by omega) (by omega) (by omega), e 63 (by omega) (by omega) (by omega) (by omega), q84]; exact p.fe
      · rw [e 65 (by omega) (by omega) (by omega) (by omega)]; exact p.vl
      · rw [e 64 (by omega) (by omega) (by omega) (by omega)]; exact p.mo
      · rw [hU, hA, e 62 (by omega) (by omega) (by omega) (by omega), e 63 (by omega) (by omega) (by omega) (by omega), e 64 (by omega) (by omega) (by omega) (by omega), e 65 (by omega) (by omega) (by omega) (by omega)]; exact p.eq
theorem Inv_class {h h' : Hp} (i : Inv h) (f : Fc h h') (pl : OkB (h 84) → PlanOk (h 84) h') (ro : OkB (h 84) → RoundOk (h 84) h') : Inv h' := by
  have q : ∀ c, (c < 66 ∨ 82 < c ∨ c = 74 ∨ c = 75) → h' c = h c := f.1
  have q84 : h' 84 = h 84 := q 84 (by omega)
  have q85 : h' 85 = h 85 := q 85 (by omega)
  have q83 : h' 83 = h 83 := q 83 (by omega)
  have hU : ∀ j, rowU h' j = rowU h j := fun j => by unfold rowU; rw [q85]
  have hA : ∀ j, rowAt h' j = rowAt h j := fun j => by unfold rowAt; rw [q83, q84, hU]
  refine Inv.mk ?_ ?_ ?_ ?_ ?_ ?_ ?_ ?_ ?_
  · rw [q84]; exact i.bok
  · rw [q84]; exact i.z84
  · rw [q84]; exact CB_frame i.cb (fun c c1 c2 => q c (by omega))
  · rw [q84]; exact pl
  · rw [q84]; exact ro
  · unfold Img
    rw [q 0 (by omega), q83, q 86 (by omega)]
    rcases i.img with x | ⟨x1, x2, x3, x4, x5⟩
    · exact Or.inl x
    · exact Or.inr ⟨x1, x2, x3, CB_frame x4 (fun c c1 c2 => q c (by omega)), x5⟩
  · refine Tp.mk ?_ ?_ ?_ ?_
    · rw [q 1 (by omega), q83]; exact i.tp.sz
    · rw [q83]; exact i.tp.lo
    · rw [q83]; exact i.tp.hi
    · rw [q83, q 87 (by omega), q 2 (by omega)]; exact i.tp.by_
  · rw [q 0 (by omega), q83]; exact i.fa
  · refine Pa.mk ?_ ?_ ?_ ?_ ?_
    · rw [q 61 (by omega), q83]; exact i.pa.sz
    · rw [q83]; exact i.pa.lo
    · rw [q83]; exact i.pa.hi
    · rw [q83, q84]; exact i.pa.ok
    · rw [q83]; intro j hj
      have p := i.pa.js j hj
      refine PaJ.mk ?_ ?_ ?_ ?_ ?_ ?_ ?_
      · rw [hU]; exact p.ok
      · rw [hU, q84]; exact p.mn
      · rw [q 62 (by omega)]; exact p.kd
      · rw [q 62 (by omega), q 63 (by omega), q84]; exact p.fe
      · rw [q 65 (by omega)]; exact p.vl
      · rw [q 64 (by omega)]; exact p.mo
      · rw [hU, hA, q 62 (by omega), q 63 (by omega), q 64 (by omega), q 65 (by omega)]; exact p.eq
def Fz (h h' : Hp) : Prop := (∀ c, c ≠ 83 → (c < 89 ∨ 95 < c) → h' c = h c) ∧ (∀ j, j ≠ 0 → (j < 13 ∨ 15 < j) → (j < 22 ∨ 24 < j) → h' 83 j = h 83 j)
theorem Fz.inv {h h' : Hp} (f : Fz h h') (i : Inv h) : Inv h' :=
  Inv_frame i (fun c c1 c2 c3 c4 => f.1 c c3 (by omega)) (f.2 3 (by omega) (by omega) (by omega)) (f.2 5 (by omega) (by omega) (by omega)) (f.2 7 (by omega) (by omega) (by omega)) (f.2 10 (by omega) (by omega) (by omega))
theorem Fq.fz {h h' : Hp} (f : Fq h h') : Fz h h' := ⟨fun c c1 c2 => f.1 c c1 (by omega), fun j _ j2 j3 => f.2 j j2 j3⟩
theorem Fz.trans {h h' h'' : Hp} (a : Fz h h') (c : Fz h' h'') : Fz h h'' := ⟨fun x h1 h2 => by rw [c.1 x h1 h2, a.1 x h1 h2], fun j h0 h1 h2 => by rw [c.2 j h0 h1 h2, a.2 j h0 h1 h2]⟩
theorem Fz_thrown {h : Hp} {v : Int} : Fz h (hs h 83 0 v) := ⟨fun c c1 _ => hs_cell c1, fun j h0 _ _ => hs_slot h0⟩
theorem Fz_out {h : Hp} {v : Int} : Inv h → Inv (hs h 96 0 v) := fun i => Inv_frame i (fun c c1 c2 c3 c4 => hs_cell (by omega)) (by rw [hs_cell (by omega)]) (by rw [hs_cell (by omega)]) (by rw [hs_cell (by omega)]) (by rw [hs_cell (by omega)])
theorem Inv.told {h : Hp} (i : Inv h) : (OkB (h 84) ∧ h 23 0 = 1 ∧ 0 < h 84 0) ∨ (NoB (h 84) ∧ h 23 0 = 0 ∧ h 84 0 = 0 ∧ h 84 42 = 0 ∧ h 33 0 = 0) := by
  rcases i.bok with o | o
  · have hw := o.week
    exact Or.inl ⟨o, by rw [i.cb.told, if_pos (by omega)], by omega⟩
  · have h0 := o.z 0 (by omega) (by omega)
    have h42 := o.z 42 (by omega) (by omega)
    exact Or.inr ⟨o, by rw [i.cb.told, if_neg (by omega)], h0, h42, by rw [cb_many i.cb, h42]⟩

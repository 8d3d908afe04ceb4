theorem Inv_tf {h h' : Hp} (i : Inv h) (e : ∀ c, 22 < c → c ≠ 82 → c ≠ 83 → (c < 87 ∨ 96 < c) → h' c = h c) (e3 : h' 83 3 = h 83 3) (e5 : h' 83 5 = h 83 5) (tp : Tp h') (e7 : h' 0 7 = h 0 7) (fa : h' 0 8 = h' 83 10 ∧ -1 ≤ h' 83 10 ∧ h' 83 10 ≤ 400) : Inv h' := by
  have q84 : h' 84 = h 84 := e 84 (by omega) (by omega) (by omega) (by omega)
  have q85 : h' 85 = h 85 := e 85 (by omega) (by omega) (by omega) (by omega)
  have hU : ∀ j, rowU h' j = rowU h j := fun j => by unfold rowU; rw [q85]
  have hA : ∀ j, rowAt h' j = rowAt h j := fun j => by unfold rowAt; rw [e3, q84, hU]
  refine Inv.mk ?_ ?_ ?_ ?_ ?_ ?_ ?_ ?_ ?_
  · rw [q84]; exact i.bok
  · rw [q84]; exact i.z84
  · rw [q84]; exact CB_frame i.cb (fun c c1 c2 => e c (by omega) (by omega) (by omega) (by omega))
  · rw [q84]; intro ok; exact PlanOk_frame (fun c c1 c2 => e c (by omega) (by omega) (by omega) (by omega)) (i.pl ok)
  · rw [q84]; intro ok
    have r := i.ro ok
    refine RoundOk.mk (RB.mk ?_ ?_ ?_) ?_ ?_
    · rw [e 73 (by omega) (by omega) (by omega) (by omega)]; exact r.rb.yrs
    · rw [e 74 (by omega) (by omega) (by omega) (by omega)]; exact r.rb.oft
    · rw [e 75 (by omega) (by omega) (by omega) (by omega)]; exact r.rb.fst
    · unfold RS; rw [e 73 (by omega) (by omega) (by omega) (by omega), e 76 (by omega) (by omega) (by omega) (by omega), e 77 (by omega) (by omega) (by omega) (by omega), e 78 (by omega) (by omega) (by omega) (by omega)]; exact r.rs
    · unfold RM; rw [e 73 (by omega) (by omega) (by omega) (by omega), e 79 (by omega) (by omega) (by omega) (by omega), e 80 (by omega) (by omega) (by omega) (by omega), e 81 (by omega) (by omega) (by omega) (by omega)]; exact r.rm
  · unfold Img
    rw [e7, e5, e 86 (by omega) (by omega) (by omega) (by omega)]
    rcases i.img with x | ⟨x1, x2, x3, x4, x5⟩
    · exact Or.inl x
    · exact Or.inr ⟨x1, x2, x3, CB_frame x4 (fun c c1 c2 => e c (by omega) (by omega) (by omega) (by omega)), x5⟩
  · exact tp
  · exact fa
  · refine Pa.mk ?_ ?_ ?_ ?_ ?_
    · rw [e 61 (by omega) (by omega) (by omega) (by omega), e3]; exact i.pa.sz
    · rw [e3]; exact i.pa.lo
    · rw [e3]; exact i.pa.hi
    · rw [e3, q84]; exact i.pa.ok
    · rw [e3]; intro j hj
      have p := i.pa.js j hj
      refine PaJ.mk ?_ ?_ ?_ ?_ ?_ ?_ ?_
      · rw [hU]; exact p.ok
      · rw [hU, q84]; exact p.mn
      · rw [e 62 (by omega) (by omega) (by omega) (by omega)]; exact p.kd
      · rw [e 62 (by omega) (by omega) (by omega) (by omega), e 63 (by omega) (by omega) (by omega) (by omega), q84]; exact p.fe
      · rw [e 65 (by omega) (by omega) (by omega) (by omega)]; exact p.vl
      · rw [e 64 (by omega) (by omega) (by omega) (by omega)]; exact p.mo
      · rw [hU, hA, e 62 (by omega) (by omega) (by omega) (by omega), e 63 (by omega) (by omega) (by omega) (by omega), e 64 (by omega) (by omega) (by omega) (by omega), e 65 (by omega) (by omega) (by omega) (by omega)]; exact p.eq
def bkEnd (N : Nat) (h_32 : Hp) : Option (Int × Hp) := lt' (fun (s0_33 : Int) => lt' (hs h_32 83 0 s0_33) (fun h34 => if leb (h34 83 0) 0 then Md_book_L194 N N 0 h34 else some (0, h34))) (fun j33 => if eqb (h_32 83 10) (-1) then j33 0 else j33 1)
def ini (h : Hp) : Hp := hs (hs (hs (hs (hs (hs (hs (hs (hs (hs (hs (hs (hs (hs (hs (hs (hs (hs (hs h 3 2 0) 3 3 0) 3 4 (-1)) 3 5 0) 3 6 0) 3 7 0) 4 0 0) 4 1 0) 4 2 0) 4 3 0) 4 4 0) 4 5 0) 4 10 20) 4 11 0) 4 12 5) 4 13 0) 6 0 0) 10 0 0) 14 0 0
def inj (g : Hp) : Hp := hs (hs (hs (hs (hs g 83 10 (-1)) 83 8 (hs g 83 10 (-1) 83 7)) 83 7 0) 83 9 0) 83 12 0
section Lx2
variable {h g : Hp} {N L : Nat} {xs : Nat → Int32}
theorem book_eq : M_Md_book N g = Md_book_L30 N (fun v1_7 h_7 => (wrA h_7 88 127 16 20).bind (fun h8 => (wrA h8 88 127 18 5).bind (fun h9 => (M_Md_bookLine N h9).bind (fun h11 => Md_book_L72 N (fun v1_32 h_32 => bkEnd N h_32) N 0 h11)))) N 0 (inj g) := by
  unfold M_Md_book bkEnd inj
  exact Eq.trans rfl rfl
theorem read_eq : M_Reader_read N h = (M_Reader_readYears N (ini h)).bind (fun h10 => (M_Reader_readMoon N h10).bind (fun h12 => Reader_read_L47 N N 0 h12)) := by
  unfold M_Reader_read M_Book_clear ini
  simp only [pu_lt, pu_c0, pu_bs]
theorem ini_c {c : Nat} (h3 : c ≠ 3) (h4 : c ≠ 4) (h6 : c ≠ 6) (h10 : c ≠ 10) (h14 : c ≠ 14) : ini h c = h c := by
  unfold ini
  rw [hs_cell h14, hs_cell h10, hs_cell h6, hs_cell h4, hs_cell h4, hs_cell h4, hs_cell h4, hs_cell h4, hs_cell h4, hs_cell h4, hs_cell h4, hs_cell h4, hs_cell h4, hs_cell h3, hs_cell h3, hs_cell h3, hs_cell h3, hs_cell h3, hs_cell h3]
theorem inj_c {c : Nat} (h3 : c ≠ 83) : inj g c = g c := by
  unfold inj
  rw [hs_cell h3, hs_cell h3, hs_cell h3, hs_cell h3, hs_cell h3]
theorem read2 (hN : 2000 < N) (sz : h 1 1 = g 83 7) (lo : 0 ≤ g 83 7) (hi : g 83 7 ≤ 400) (by_ : ∀ i : Nat, (i : Int) < g 83 7 → g 87 i = andI (h 2 i) 255 ∧ 0 ≤ g 87 i ∧ g 87 i ≤ 255) :
    ∃ C1 M1 : Hp, M_Reader_read N h = some (C1 3 4, C1) ∧ FrD h C1 ∧ (-1 ≤ C1 3 4 ∧ C1 3 4 ≤ 400) ∧ M_Md_book N g = bkEnd N M1 ∧ (∀ c, c ≠ 83 → c ≠ 88 → M1 c = g c) ∧ (∀ j, (j < 7 ∨ 12 < j) → M1 83 j = g 83 j) ∧ M1 83 7 = 0 ∧ M1 83 10 = C1 3 4 ∧ (C1 3 4 = -1 → ∀ b : Nat → Int, (∀ k, k < 127 → b k = M1 88 k) → OkB b ∧ CB b C1 4) := by
  obtain ⟨E, eE⟩ : ∃ E : Nat, g 83 7 = (E : Int) := ⟨(g 83 7).toNat, by omega⟩
  have B : TB (g 87) E := TB.mk (by omega) (fun p hp => (by_ p (by omega)).2)
  have i3 : ∀ j : Nat, ini h 3 2 = 0 ∧ ini h 3 4 = -1 ∧ ini h 3 5 = 0 ∧ ini h 3 6 = 0 ∧ ini h 3 7 = 0 := fun _ => ⟨rfl, rfl, rfl, rfl, rfl⟩
  have z32 : ini h 3 2 = 0 := rfl
  have z34 : ini h 3 4 = -1 := rfl
  have z41 : ini h 4 1 = 0 := rfl
  have z42 : ini h 4 2 = 0 := rfl
  have z43 : ini h 4 3 = 0 := rfl
  have z6 : ini h 6 0 = 0 := rfl
  have z10 : ini h 10 0 = 0 := rfl
  have z14 : ini h 14 0 = 0 := rfl
  have tc : TC (g 87) E (ini h) := TC.mk (by rw [ini_c (by omega) (by omega) (by omega) (by omega) (by omega), sz]; exact eE) (fun p hp => by rw [ini_c (by omega) (by omega) (by omega) (by omega) (by omega)]; exact (by_ p (by omega)).1.symm)
  have cs : Cs (g 87) E (ini h) := Cs.mk tc (by rw [z32]; omega) (by rw [z34]; omega)
  have ds : Ds (ini h) := Ds.mk (Or.inl rfl) (Or.inl rfl) (Or.inl rfl) (by rw [z41]; omega) (by rw [z42]; omega) (by rw [z42, z43]; omega) (fun i hi => by rw [z42] at hi; omega) (by rw [z6]; omega) (by rw [z10]; omega) (by rw [z14]; omega) (fun f hf => by rw [z14] at hf; omega)
  obtain ⟨g', ⟨a1, a2⟩, a3⟩ := m_L30 (g := inj g) (N := N) (K := fun v1_7 h_7 => (wrA h_7 88 127 16 20).bind (fun h8 => (wrA h8 88 127 18 5).bind (fun h9 => (M_Md_bookLine N h9).bind (fun h11 => Md_book_L72 N (fun v1_32 h_32 => bkEnd N h_32) N 0 h11)))) hN
  have b83 : ∀ j, hs (hs g' 88 16 20) 88 18 5 83 j = inj g 83 j := fun j => by rw [hs_cell (by omega), hs_cell (by omega), a1 83 (by omega)]
  have bc : ∀ c, c ≠ 88 → hs (hs g' 88 16 20) 88 18 5 c = inj g c := fun c hc => by rw [hs_cell hc, hs_cell hc, a1 c hc]
  have b88 : ∀ q, q < 127 → hs (hs g' 88 16 20) 88 18 5 88 q = if q = 18 then 5 else if q = 16 then 20 else 0 := fun q hq => by
    rw [hs_up, hs_up]
    unfold pu_up
    rw [a2 q, if_pos hq]
  have eb : M_Md_book N g = (M_Md_bookLine N (hs (hs g' 88 16 20) 88 18 5)).bind (fun h11 => Md_book_L72 N (fun v1_32 h_32 => bkEnd N h_32) N 0 h11) := by
    rw [book_eq, a3]
    (try dsimp only)
    rw [wr88 (n := 16) (by omega) (by omega), pu_bs, wr88 (n := 18) (by omega) (by omega), pu_bs]
  generalize hs (hs g' 88 16 20) 88 18 5 = M0 at *
  have m9 : M0 83 9 = 0 := by rw [b83]; rfl
  have m10 : M0 83 10 = -1 := by rw [b83]; rfl
  have m12 : M0 83 12 = 0 := by rw [b83]; rfl
  have m7 : M0 83 7 = 0 := by rw [b83]; rfl
  have m8 : M0 83 8 = (E : Int) := by rw [b83]; exact eE
  have mj : ∀ j, (j < 7 ∨ 12 < j) → M0 83 j = g 83 j := fun j hj => by
    rw [b83]
    unfold inj
    rw [hs_slot (by omega), hs_slot (by omega), hs_slot (by omega), hs_slot (by omega), hs_slot (by omega)]
  have mc : ∀ c, c ≠ 83 → c ≠ 88 → M0 c = g c := fun c c1 c2 => by rw [bc c c2, inj_c c1]
  have ms : Ms (g 87) E M0 := Ms.mk (TM.mk m8 (fun p _ => by rw [mc 87 (by omega) (by omega)])) (by rw [m9]; omega) (by rw [m10]; omega)
  have P : Ps (g 87) E (ini h) M0 := Ps.mk cs ms (by rw [z34, m10]) (fun _ => by rw [z32, m9])
  have Z : Zi (ini h) M0 := Zi.mk m12 (by rw [b88 16 (by omega)]; rfl) (by rw [b88 18 (by omega)]; rfl) (fun k k1 k2 k3 => by rw [b88 k k2, if_neg k3, if_neg (by omega)]) rfl rfl rfl rfl rfl rfl rfl ⟨rfl, rfl, rfl⟩
  have lp : lp0 (ini h) M0 := ⟨by rw [b88 10 (by omega)]; rfl, by rw [b88 11 (by omega)]; rfl, rfl, rfl⟩
  obtain ⟨C1, M1, e1, e2, q1, q2, q3⟩ := s2_head (N := N) B (by omega) P z34 ds Z z42 z43 lp (by rw [b88 1 (by omega)]; rfl)
  obtain ⟨Y, y1, y2, y3, y4, y5⟩ := sf_years (N := N) B (by omega) cs ds
  obtain ⟨W, w1, w2, w3, w4, w5⟩ := sf_moon (N := N) B (by omega) y2 y3
  rw [y1, pu_bs, w1] at e1
  have e1' := Option.some.inj e1
  subst e1'
  obtain ⟨C2, M2, v', r1, r2, r3, r4, r5, r6, r7⟩ := rl2 (N := N) B (by omega) 25 0 N N W M1 (by omega) (by omega) (by omega) q1 w3 q2 (fun z => by omega)
  have c0 : ((0 : Nat) : Int) = 0 := rfl
  rw [c0] at r1 r2
  have er : M_Reader_read N h = readFin N C2 := by rw [read_eq, y1, pu_bs, w1, pu_bs, r1]
  have em : M_Md_book N g = bkEnd N M2 := by rw [eb, e2, pu_bs, r2]
  have fD : FrD h C2 := fun c hc => by rw [r6 c hc, w5 c hc, y5 c hc, ini_c (by omega) (by omega) (by omega) (by omega) (by omega)]
  have fR : FrR M0 M2 := q3.trans r7
  have w10 := r3.w
  have wr := r3.c.wr
  have mj' : ∀ j, (j < 7 ∨ 12 < j) → M2 83 j = g 83 j := fun j hj => by rw [fR.2 j (by omega) (by omega) (by omega), mj j hj]
  have mc' : ∀ c, c ≠ 83 → c ≠ 88 → M2 c = g c := fun c c1 c2 => by rw [fR.1 c c1 c2, mc c c1 c2]
  have m7' : M2 83 7 = 0 := by rw [fR.2 7 (by omega) (by omega) (by omega), m7]
  by_cases z : C2 3 4 = -1
  · have K := r5 z
    obtain ⟨C3, u1, u2, u3, u4⟩ := fin_ok (N := N) (by omega) K z
    have c34 : C3 3 4 = -1 := by rw [u3]; exact z
    refine ⟨C3, M2, by rw [er, u1, c34], fD.trans u4, by omega, em, mc', mj', m7', by rw [c34, ← w10]; exact z, fun _ b hb => ?_⟩
    have K' : Kp b C2 (M2 83 12) := Kp_cg K hb
    obtain ⟨C4, t1, t2, _, _⟩ := fin_ok (N := N) (by omega) K' z
    rw [u1] at t1
    have t3 : C3 = C4 := (Prod.mk.inj (Option.some.inj t1)).2
    rw [t3]
    exact ⟨Kp_ok K', t2⟩
  · obtain ⟨C3, u1, u3, u4⟩ := fin_no (N := N) (by omega) r4 wr z
    have c34 : C3 3 4 = C2 3 4 := by rw [u3]
    exact ⟨C3, M2, by rw [er, u1, c34], fD.trans u4, by omega, em, mc', mj', m7', by rw [c34, ← w10], fun x => absurd (c34.symm.trans x) z⟩
end Lx2

section Lw2
variable {b b' : Nat → Int} {h h' : Hp} {w : Int} {N : Nat}
theorem Kp_cg (K : Kp b h w) (e : ∀ k, k < 127 → b' k = b k) : Kp b' h w := by
  have m := K.mo.mon
  exact Kp.mk (PMon_fr K.mo (fun k _ => e k (by omega)) (fun _ _ _ => rfl) rfl) (PMoo_fr (by omega) K.ca (fun k _ => e k (by omega)) (fun _ _ _ => rfl)) (PSet_fr K.st (fun k _ _ => e k (by omega)) (fun _ _ _ => rfl) (fun _ _ _ => rfl) rfl) (PSea_fr K.se (fun k _ _ => e k (by omega)) (fun _ _ _ => rfl)) (PClo_fr K.cl (fun k _ _ => e k (by omega)) (fun _ _ _ => rfl)) (PFea_fr (by omega) K.fe (fun k _ => e k (by omega)) (fun k _ h2 => e k h2) (fun _ _ _ => rfl))
theorem Kp_ok (K : Kp b h w) : OkB b := by
  have wk := K.mo.week
  have mo := K.mo.mon
  have ca := K.ca
  have st := K.st
  have c1 := ca.lmon
  have c2 := ca.cyc
  have c3 := ca.fst
  have c4 := ca.stp
  have c5 := ca.spn
  have s1 := st.rch
  have s2 := st.fas
  have s3 := st.lft
  have s4 := st.rst
  have n1 := K.se.nse
  have n2 := K.cl.ncl
  have n3 := K.fe.many
  exact OkB.mk (by omega) (by omega) (fun i hi => (K.mo.days i hi).1) ca.leap.1 (by omega) (by omega) (by omega) (by omega) (by omega) ca.fit (by omega) (by omega) (by omega) (by omega) (by omega) (fun k hk => (K.se.sea k hk).1) (by omega) (fun k hk => (K.cl.clo k hk).1) (by omega) (fun f hf => (K.fe.fea f hf).1)
theorem Kp_cb (K : Kp b h w) (e : ∀ c, c ≠ 21 → c ≠ 22 → h' c = h c) (e1 : ∀ f : Nat, (f : Int) < b 42 → h' 21 f = cl b f) (e2 : ∀ f : Nat, (f : Int) < b 42 → h' 22 (above b f).toNat = f) : CB b (hs h' 4 0 1) 4 := by
  have wk := K.mo.week
  have j4 : ∀ j, j ≠ 0 → hs h' 4 0 1 4 j = h 4 j := fun j hj => by rw [hs_slot hj, e 4 (by omega) (by omega)]
  have jc : ∀ c, c ≠ 4 → c ≠ 21 → c ≠ 22 → hs h' 4 0 1 c = h c := fun c c1 c2 c3 => by rw [hs_cell c1, e c c2 c3]
  refine CB.mk ?_ ?_ ?_ ?_ ?_ ?_ ?_ ?_ ?_ ?_ ?_ ?_ ?_ ?_ ?_ ?_ ?_ ?_ ?_ ?_ ?_ ?_ ?_
  · rw [hs_at, if_pos (by omega)]
  · rw [j4 1 (by omega)]; exact wk.2.2
  · rw [j4 2 (by omega)]; exact K.mo.mon.2.2
  · rw [j4 3 (by omega)]; exact K.mo.yday
  · rw [j4 4 (by omega)]; exact K.ca.leap.2
  · rw [j4 5 (by omega)]; exact K.ca.lmon.2.2
  · rw [j4 6 (by omega)]; exact K.ca.cyc.2.2
  · rw [j4 7 (by omega)]; exact K.ca.fst.2.2
  · rw [j4 8 (by omega)]; exact K.ca.stp.2.2
  · rw [j4 9 (by omega)]; exact K.ca.spn.2.2
  · rw [j4 10 (by omega)]; exact K.st.rch.2.2
  · rw [j4 11 (by omega)]; exact K.st.rst.2.2
  · rw [j4 12 (by omega)]; exact K.st.lft.2.2
  · rw [j4 13 (by omega)]; exact K.st.fas.2.2
  · intro i hi; rw [jc (4 + 1) (by omega) (by omega) (by omega)]; exact (K.mo.days i hi).2
  · rw [jc (4 + 2) (by omega) (by omega) (by omega)]; exact K.se.nse.2.2
  · intro k hk; rw [jc (4 + 3) (by omega) (by omega) (by omega), jc (4 + 4) (by omega) (by omega) (by omega), jc (4 + 5) (by omega) (by omega) (by omega)]; exact (K.se.sea k hk).2
  · rw [jc (4 + 6) (by omega) (by omega) (by omega)]; exact K.cl.ncl.2.2
  · intro k hk; rw [jc (4 + 7) (by omega) (by omega) (by omega), jc (4 + 8) (by omega) (by omega) (by omega)]; exact (K.cl.clo k hk).2
  · rw [jc (4 + 10) (by omega) (by omega) (by omega)]; exact K.fe.many.2.2
  · intro f hf; rw [jc (4 + 11) (by omega) (by omega) (by omega), jc (4 + 12) (by omega) (by omega) (by omega), jc (4 + 13) (by omega) (by omega) (by omega), jc (4 + 14) (by omega) (by omega) (by omega), jc (4 + 15) (by omega) (by omega) (by omega), jc (4 + 16) (by omega) (by omega) (by omega)]; exact (K.fe.fea f hf).2
  · intro f hf; rw [hs_cell (by omega)]; exact e1 f hf
  · intro f hf; rw [hs_cell (by omega)]; exact e2 f hf
theorem fin_ok (hN : 20 < N) (K : Kp b h w) (z : h 3 4 = -1) : ∃ h', readFin N h = some (-1, h') ∧ CB b h' 4 ∧ h' 3 = h 3 ∧ FrD h h' := by
  have ok := Kp_ok K
  have mo := ok.mon
  have mn := ok.many
  obtain ⟨g, s1, s2, s3, s4⟩ := c_sortByClaim (h := h) (N := N) (F := 14) (b := b) hN (by omega) (by omega) ok.fea (by omega) K.fe.many.2.2 (fun f hf => ⟨(K.fe.fea f hf).2.1, (K.fe.fea f hf).2.2.1⟩)
  have g3 : g 3 = h 3 := s2 3 (by omega) (by omega)
  refine ⟨hs g 4 0 1, ?_, Kp_cb K s2 s3 s4, by rw [hs_cell (by omega)]; exact g3, fun c hc => by rw [hs_cell (by omega)]; exact s2 c (by omega) (by omega)⟩
  unfold readFin
  rw [s1, pu_bs, if_pos (by rw [g3, z, eqb_iff (by omega) (by omega) (by omega) (by omega)]), pu_c1, pu_lt, hs_cell (by omega), g3, z]
theorem fin_no (hN : 20 < N) (D : Ds h) (wr : -1 ≤ h 3 4 ∧ h 3 4 ≤ 400) (z : h 3 4 ≠ -1) : ∃ h', readFin N h = some (h 3 4, h') ∧ h' 3 = h 3 ∧ FrD h h' := by
  have fe := D.fe
  obtain ⟨n, en⟩ : ∃ n : Nat, h 14 0 = (n : Int) := ⟨(h 14 0).toNat, by omega⟩
  obtain ⟨g, s1, s2⟩ := c_sort_safe (h := h) (N := N) (n := n) hN (by omega) en (fun f hf => D.fr f (by omega))
  have g3 : g 3 = h 3 := s2 3 (by omega) (by omega)
  refine ⟨hs g 4 0 0, ?_, by rw [hs_cell (by omega)]; exact g3, fun c hc => by rw [hs_cell (by omega)]; exact s2 c (by omega) (by omega)⟩
  unfold readFin
  rw [s1, pu_bs, if_neg (by rw [g3, eqb_iff (by omega) (by omega) (by omega) (by omega)]; exact z), pu_c0, pu_lt, hs_cell (by omega), g3]
end Lw2

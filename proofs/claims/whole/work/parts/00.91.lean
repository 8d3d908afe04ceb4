section Ly2
variable {h g M : Hp} {N L : Nat} {xs : Nat → Int32}
theorem bkEnd_ok (w : M 83 10 = -1) : bkEnd N M = Md_book_L194 N N 0 (hs M 83 0 0) := by
  unfold bkEnd
  simp only [pu_lt]
  rw [if_pos (show eqb (M 83 10) (-1) = true by rw [w, eqb_iff (by omega) (by omega) (by omega) (by omega)]), if_pos (show leb (hs M 83 0 0 83 0) 0 = true by rw [hs_at, leb_iff (by omega) (by omega) (by omega) (by omega)]; omega)]
theorem bkEnd_no (w : M 83 10 ≠ -1) (wr : -1 ≤ M 83 10 ∧ M 83 10 ≤ 400) : bkEnd N M = some (0, hs M 83 0 1) := by
  unfold bkEnd
  simp only [pu_lt]
  rw [if_neg (show ¬ eqb (M 83 10) (-1) = true by rw [eqb_iff (by omega) (by omega) (by omega) (by omega)]; exact w), if_neg (show ¬ leb (hs M 83 0 1 83 0) 0 = true by rw [hs_at, leb_iff (by omega) (by omega) (by omega) (by omega)]; omega)]
theorem kb_all (hN : 7000 < N) : Kb N L xs := by
  intro h v4 k i
  unfold Lw_case_2 M_Lw_book
  have tp := i.tp
  obtain ⟨C1, M1, r1, f1, w1, _, _, _, _, _, kk⟩ := read2 (h := h) (g := h) (N := N) (by omega) tp.sz tp.lo tp.hi tp.by_
  have Hc : ∀ c, c ≠ 0 → c ≠ 1 → hs (hs C1 0 8 (C1 3 4)) 1 1 0 c = C1 c := fun c c0 c1 => by rw [hs_cell c1, hs_cell c0]
  have H07 : hs (hs C1 0 8 (C1 3 4)) 1 1 0 0 7 = h 0 7 := by rw [hs_cell (by omega), hs_slot (by omega), f1 0 (by omega)]
  have H08 : hs (hs C1 0 8 (C1 3 4)) 1 1 0 0 8 = C1 3 4 := by rw [hs_cell (by omega), hs_at]
  have H11 : hs (hs C1 0 8 (C1 3 4)) 1 1 0 1 1 = 0 := hs_at
  generalize hH : hs (hs C1 0 8 (C1 3 4)) 1 1 0 = H at *
  have Hh : ∀ c, 22 < c → H c = h c := fun c hc => by rw [Hc c (by omega) (by omega)]; exact f1 c (by omega)
  have xb0 : M_FB_book N h = if eqb (H 0 8) (-1) then (M_FB_takeOver N H 4).bind (fun h6 => some (0, h6 33 0, h6)) else some (3, 0, H) := by
    unfold M_FB_book
    rw [r1, pu_bs, pu_lt, pu_lt, hH]
  by_cases z : C1 3 4 = -1
  · have o := kk z (fun q => M1 88 q) (fun _ _ => rfl)
    have cb4 : ∀ b, CB b C1 4 → CB b H 4 := fun b cb => CB_frame cb (fun c c1 c2 => Hc c (by omega) (by omega))
    obtain ⟨C', e1, e2, _, _, _⟩ := c_takeOver (h := H) (N := N) (B := 4) (by omega) (by omega) (Or.inl o.1) (cb4 _ o.2)
    have xb : M_FB_book N h = some (0, C' 33 0, C') := by
      rw [xb0, if_pos (show eqb (H 0 8) (-1) = true by rw [H08, z, eqb_iff (by omega) (by omega) (by omega) (by omega)]), e1, pu_bs]
    have Ch : ∀ c, 41 < c → c ≠ 61 → c ≠ 66 → c ≠ 73 → c ≠ 74 → c ≠ 75 → C' c = h c := fun c h0 h1 h2 h3 h4 h5 => by rw [e2 c (by omega) h1 h2 h3 h4 h5, Hh c (by omega)]
    have Gh : ∀ c, 41 < c → c ≠ 61 → c ≠ 66 → c ≠ 73 → c ≠ 74 → c ≠ 75 → c ≠ 96 → hs C' 96 0 (nrm (C' 33 0)) c = h c := fun c h0 h1 h2 h3 h4 h5 h6 => by rw [hs_cell h6]; exact Ch c h0 h1 h2 h3 h4 h5
    have G83 := Gh 83 (by omega) (by omega) (by omega) (by omega) (by omega) (by omega) (by omega)
    have G87 := Gh 87 (by omega) (by omega) (by omega) (by omega) (by omega) (by omega) (by omega)
    have G84 := Gh 84 (by omega) (by omega) (by omega) (by omega) (by omega) (by omega) (by omega)
    have G86 := Gh 86 (by omega) (by omega) (by omega) (by omega) (by omega) (by omega) (by omega)
    have Gc : ∀ c, c ≠ 96 → hs C' 96 0 (nrm (C' 33 0)) c = C' c := fun c hc => hs_cell hc
    have G96 : hs C' 96 0 (nrm (C' 33 0)) 96 0 = nrm (C' 33 0) := hs_at
    obtain ⟨C1b, M2, s1, _, _, s4, s5, s6, s7, s8, s9⟩ := read2 (h := h) (g := hs C' 96 0 (nrm (C' 33 0))) (N := N) (by omega) (by rw [G83]; exact tp.sz) (by rw [G83]; exact tp.lo) (by rw [G83]; exact tp.hi) (by rw [G83, G87]; exact tp.by_)
    rw [r1] at s1
    have s1' : C1 = C1b := (Prod.mk.inj (Option.some.inj s1)).2
    subst s1'
    generalize hb' : (fun q : Nat => if q < 127 then M2 88 q else 0) = b' at *
    have hbq : ∀ q, b' q = if q < 127 then M2 88 q else 0 := fun q => by rw [← hb']
    have o' := s9 z b' (fun q hq => by rw [hbq, if_pos hq])
    obtain ⟨C'', e1', _, e3', e4', e5'⟩ := c_takeOver (h := H) (N := N) (B := 4) (b := b') (by omega) (by omega) (Or.inl o'.1) (cb4 _ o'.2)
    rw [e1] at e1'
    have e1'' := Option.some.inj e1'
    subst e1''
    obtain ⟨r, l1, l2, l3, l4, l5, l6⟩ := m_L194 (g := hs M2 83 0 0) (N := N) (by omega)
    have m2c : ∀ c, c ≠ 83 → c ≠ 84 → c ≠ 88 → r.2 c = hs C' 96 0 (nrm (C' 33 0)) c := fun c h1 h2 h3 => by rw [l3 c h1 h2, hs_cell h1, s5 c h1 h3]
    have m2j : ∀ j, j ≠ 0 → j ≠ 3 → r.2 83 j = M2 83 j := fun j j1 j2 => by rw [l4 j j2, hs_slot j1]
    have v42 : C' 33 0 = r.1 := by
      have x : C' (23 + 10) 0 = b' 42 := e3'.many
      rw [l2, hs_cell (by omega)]
      rw [hbq 42, if_pos (by omega)] at x
      exact x
    have q84 : r.2 84 = b' := by
      funext q
      rw [l6 q, hbq q, hs_cell (by omega), hs_cell (by omega), s5 84 (by omega) (by omega), G84]
      by_cases c : q < 127
      · rw [if_pos c, if_pos c]
      · rw [if_neg c, if_neg c]; exact i.z84 q (by omega)
    have r0 : r.2 0 = C' 0 := by rw [m2c 0 (by omega) (by omega) (by omega), Gc 0 (by omega)]
    have C0' : C' 0 = H 0 := e2 0 (by omega) (by omega) (by omega) (by omega) (by omega) (by omega)
    have C1' : C' 1 = H 1 := e2 1 (by omega) (by omega) (by omega) (by omega) (by omega) (by omega)
    have r7 : r.2 83 7 = 0 := by rw [m2j 7 (by omega) (by omega)]; exact s7
    have r10 : r.2 83 10 = -1 := by rw [m2j 10 (by omega) (by omega), s8]; exact z
    have r5 : r.2 83 5 = h 83 5 := by rw [m2j 5 (by omega) (by omega), s6 5 (by omega), G83]
    have r86 : r.2 86 = h 86 := by rw [m2c 86 (by omega) (by omega) (by omega)]; exact G86
    have rk : ∀ c, 42 ≤ c → c ≤ 60 → r.2 c = h c := fun c c1 c2 => by rw [m2c c (by omega) (by omega) (by omega)]; exact Gh c (by omega) (by omega) (by omega) (by omega) (by omega) (by omega) (by omega)
    have inv : Inv r.2 := by
      refine Inv_over (b := b') (C := C') (Or.inl o'.1) (fun q hq => by rw [hbq, if_neg (by omega)]) e3' e5' e4' (fun c h1 h2 h3 h4 => by rw [m2c c h1 h2 (by omega), Gc c (by omega)]) q84 l5 ?_ (Tp.mk ?_ ?_ ?_ ?_) ?_
      · unfold Img
        rw [r0, C0', H07, r5, r86]
        rcases i.img with x | ⟨x1, x2, x3, x4, x5⟩
        · exact Or.inl x
        · exact Or.inr ⟨x1, x2, x3, CB_frame x4 (fun c c1 c2 => rk c (by omega) (by omega)), x5⟩
      · rw [r7, m2c 1 (by omega) (by omega) (by omega), Gc 1 (by omega), C1', H11]
      · rw [r7]; omega
      · rw [r7]; omega
      · rw [r7]; intro j hj; omega
      · rw [r0, C0', H08, r10]; omega
    refine fin_edit (R := fun g => M_Md_book N g) (hM := r.2) xb ?_ ?_ ?_ inv k
    · show M_Md_book N (hs C' 96 0 (nrm (C' 33 0))) = some (C' 33 0, r.2)
      rw [s4, bkEnd_ok (by rw [s8]; exact z), l1, v42]
    · rw [l4 0 (by omega), hs_at]
    · rw [m2c 96 (by omega) (by omega) (by omega)]; exact G96
  · have xb : M_FB_book N h = some (3, 0, H) := by
      rw [xb0, if_neg (show ¬ eqb (H 0 8) (-1) = true by rw [H08, eqb_iff (by omega) (by omega) (by omega) (by omega)]; exact z)]
    have G83 := Hh 83 (by omega)
    have G87 := Hh 87 (by omega)
    obtain ⟨C1b, M2, s1, _, _, s4, s5, s6, s7, s8, s9⟩ := read2 (h := h) (g := H) (N := N) (by omega) (by rw [G83]; exact tp.sz) (by rw [G83]; exact tp.lo) (by rw [G83]; exact tp.hi) (by rw [G83, G87]; exact tp.by_)
    rw [r1] at s1
    have s1' : C1 = C1b := (Prod.mk.inj (Option.some.inj s1)).2
    subst s1'
    have m2c : ∀ c, c ≠ 83 → c ≠ 88 → hs M2 83 0 1 c = H c := fun c h1 h3 => by rw [hs_cell h1, s5 c h1 h3]
    have m2j : ∀ j, j ≠ 0 → hs M2 83 0 1 83 j = M2 83 j := fun j j1 => hs_slot j1
    have r7 : hs M2 83 0 1 83 7 = 0 := by rw [m2j 7 (by omega)]; exact s7
    have r10 : hs M2 83 0 1 83 10 = C1 3 4 := by rw [m2j 10 (by omega)]; exact s8
    have inv : Inv (hs M2 83 0 1) := by
      refine Inv_tf i (fun c h0 h1 h2 h3 => by rw [m2c c h2 (by omega)]; exact Hh c h0) (by rw [m2j 3 (by omega), s6 3 (by omega), G83]) (by rw [m2j 5 (by omega), s6 5 (by omega), G83]) (Tp.mk ?_ ?_ ?_ ?_) (by rw [m2c 0 (by omega) (by omega)]; exact H07) ?_
      · rw [r7, m2c 1 (by omega) (by omega), H11]
      · rw [r7]; omega
      · rw [r7]; omega
      · rw [r7]; intro j hj; omega
      · rw [r10, m2c 0 (by omega) (by omega), H08]; exact ⟨rfl, w1⟩
    refine fin_err (R := fun g => M_Md_book N g) (idx := 1) (v' := 0) (g' := hs M2 83 0 1) xb (by omega) rfl (by omega) ?_ hs_at inv k
    show M_Md_book N H = some (0, hs M2 83 0 1)
    rw [s4, bkEnd_no (by rw [s8]; exact z) (by rw [s8]; exact w1)]
theorem k_pure (hL : L ≤ 3072) : Lw_loop 10000 L xs 513 0 h00 = some 1 := k_all (kb_all (by omega)) hL
end Ly2

section Lu2
variable {t : Nat → Int} {E : Nat} {C M : Hp} {N : Nat}
theorem s2_head (B : TB t E) (hN : 1000 < N) (P : Ps t E C M) (w : C 3 4 = -1) (D : Ds C) (Z : Zi C M) (c42 : C 4 2 = 0) (c43 : C 4 3 = 0) (lp : lp0 C M) (m1 : M 88 1 = 0) :
    S2 ((M_Reader_readYears N C).bind (fun h10 => M_Reader_readMoon N h10)) (M_Md_bookLine N M) (Q2 t E M) := by
  have main : ∃ C1 M1, M_Reader_readYears N C = some C1 ∧ M_Md_bookLine N M = moM N M1 ∧ Yo t E C M C1 M1 := by
    rw [bookLine_eq]
    unfold M_Reader_readYears
    obtain ⟨C1, M1, e1, e1', P1, f1, g1, w1⟩ := expects2 (N := N) (k := 0) (k' := 18) B hN P (by omega) (by omega) rfl (fun h6 => (M_Reader_readNumber N h6 3 9).bind (fun q8 => lt' (hs q8.2 4 1 q8.1) (fun h9 => (M_Reader_readNumber N h9 5 31).bind (fun q11 => (M_Book_addMonth q11.2 4 q11.1).bind (fun h13 => Reader_readYears_L44 N N 1 h13)))))
    rw [e1, e1', pu_bs]
    obtain ⟨a, aM, C2, M2, e2, e2', P2, f2, g2, r2, b2, _, _⟩ := number2 (N := N) (lo := 3) (hi := 9) B hN P1 (by omega) (by omega)
    rw [e2, e2', pu_bs, pu_bs]
    (try dsimp only)
    rw [pu_lt, wr88 (n := 0) (by omega) (by omega), pu_bs]
    have P3 : Ps t E (hs C2 4 1 a) (hs M2 88 0 aM) := (P2.wC (by omega)).wM
    have fC : FrC C C2 := f1.trans f2
    have gM : FrM M M2 := g1.trans g2
    have D3 : Ds (hs C2 4 1 a) := Ds_wk (D.fr' fC) (by omega)
    have fH : FrH M (hs M2 88 0 aM) := (FrH_M gM).trans (FrH_w (by omega))
    have fHC : FrHC C (hs C2 4 1 a) := (FrHC_C fC).trans (FrHC_w (by omega))
    have z34 : hs C2 4 1 a 3 4 = C2 3 4 := by rw [hs_cell (by omega)]
    have x41 : hs C2 4 1 a 4 1 = a := hs_at
    have x4j : ∀ j, j ≠ 1 → hs C2 4 1 a 4 j = C 4 j := fun j hj => by rw [hs_slot hj, fC.1 4 (by omega)]
    have y0 : hs M2 88 0 aM 88 0 = aM := hs_at
    have yj : ∀ j, j ≠ 0 → hs M2 88 0 aM 88 j = M 88 j := fun j hj => by rw [hs_slot hj, gM.1 88 (by omega)]
    generalize hs C2 4 1 a = C3 at *
    generalize hs M2 88 0 aM = M3 at *
    by_cases z : C2 3 4 = -1
    · have rz := r2 z
      have z3 : C3 3 4 = -1 := z34.trans z
      have zM : M3 83 10 = -1 := by rw [← P3.w]; exact z3
      have x1 : M3 88 1 = 0 := by rw [yj 1 (by omega)]; exact m1
      have H : Hd 0 C M C3 M3 := by
        refine Hd.mk ?_ ?_ ?_ ?_ fH fHC
        · rw [y0, x41]; omega
        · rw [x1, x4j 2 (by omega), c42]; exact ⟨rfl, rfl⟩
        · rw [x4j 3 (by omega), c43]; rfl
        · intro i hi; omega
      have lp3 : lp0 C3 M3 := by
        unfold lp0 at *
        rw [yj 10 (by omega), yj 11 (by omega), x4j 4 (by omega), x4j 5 (by omega)]; exact lp
      have e0 : ∀ k, ∀ n, n = (N - 1) + 1 → Md_bookLine_L19 N k n M3 = mStep N (N - 1) M3 k := fun k n hn => by
        subst hn
        rw [Md_bookLine_L19, if_pos (flt_y P3.m zM), rd88 (n := 1) (by omega) (by omega), pu_bs, if_neg (by rw [x1, leb_iff (by omega) (by omega) (by omega) (by omega)]; omega), pu_bs, pu_lt, if_pos (by rw [x1]; exact eq00)]
        exact Eq.trans rfl rfl
      obtain ⟨C', M', u1, u2, u3⟩ := y_step (N := N) (n1 := N) (n2 := N - 1) (v := 1) B hN P3 z3 D3 H (by omega) lp3 (by omega) (by omega) (by omega) (fun C' M' P' w' D' H' lp' => yl2 B hN 7 1 N (N - 1) C' M' (by omega) (by omega) (by omega) (by omega) P' w' D' H' lp')
      exact ⟨C', M', u1, (e0 _ N (by omega)).trans (u2 _), u3⟩
    · have z3 : C3 3 4 ≠ -1 := by rw [z34]; exact z
      have s : Sf t E C3 ((M_Reader_readNumber N C3 5 31).bind (fun q11 => (M_Book_addMonth q11.2 4 q11.1).bind (fun h13 => Reader_readYears_L44 N N 1 h13))) := by
        refine Sf_number B hN P3.c D3 (by omega) (by omega) (fun x g2 P2 D2 _ bx => ?_)
        (try dsimp only)
        refine Sf_month P2 D2 (by omega) (fun g3 P3 D3 _ => ?_)
        exact sf_yL B hN 8 N 1 g3 P3 D3 (by omega) (by omega) (by omega) (by omega)
      obtain ⟨C', u1, u2, u3, u4, _⟩ := s
      exact ⟨C', M3, u1, L19_bad P3.m (by rw [← P3.w]; exact z3) (by omega) _, u2, u3, P3.m, fH.r, Or.inl ⟨by rw [u4 z3]; exact P3.w, by rw [u4 z3]; exact z3⟩⟩
  obtain ⟨C1, M1, e1, e2, c1, d1, mm, fr, o⟩ := main
  rw [e1, e2, pu_bs]
  rcases o with ⟨o1, o2⟩ | ⟨o1, o2, n, o3, o4, o5⟩ | ⟨o1, q, b, o2, o3, o4, o5, o6⟩
  · exact S2_bad o1 o2 (sf_moon B hN c1 d1) (bd_moM B hN mm (by rw [← o1]; exact o2)) fr
  · exact s2_moon B hN o1 o2 d1 Z o4 o3 o5
  · have he := B.e
    exact S2_bad (C := C1) (M := hs (hs (hs M1 83 9 (b : Int)) 83 9 (b : Int)) 83 10 (b : Int)) (by rw [hs_at]; exact o6) (by omega) (sf_moon B hN c1 d1) (bd_moD B hN mm o1 o2 o3 o4 o5) (fr.trans ((FrM_9.trans FrM_9).trans FrM_10).r)
end Lu2

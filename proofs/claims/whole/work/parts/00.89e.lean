section Lw
variable {t : Nat → Int} {E : Nat} {hC : Hp} {N : Nat}
theorem signedC (B : TB t E) (hN : 1000 < N) (P : Cs t E hC) {lo : Int} (hl : -99 ≤ lo ∧ lo ≤ 99) :
    ∃ v hC', M_Reader_readSigned N hC lo = some (v, hC') ∧ Cs t E hC' ∧ FrC hC hC' ∧ (lo ≤ v ∧ v ≤ 99) ∧ (hC 3 4 ≠ -1 → hC' 3 4 = hC 3 4) := by
  have he := B.e
  have pc := P.pl
  have wc := P.wr
  obtain ⟨p, ep⟩ : ∃ p : Nat, hC 3 2 = (p : Int) := ⟨(hC 3 2).toNat, by omega⟩
  have hb := sc_bd (f := bl t) (show p ≤ E by omega)
  generalize eb : sc (bl t) E p = b at *
  have hsE : sgS t E b ≤ E ∧ b ≤ sgS t E b := by
    unfold sgS
    by_cases c : tv t E b = 45
    · rw [if_pos c]
      unfold tv at c
      by_cases z : b < E
      · omega
      · rw [if_neg z] at c; omega
    · rw [if_neg c]; omega
  have hd := sc_bd (f := dg t) hsE.1
  have hin := sc_in (f := dg t) hsE.1
  generalize ed : sc (dg t) E (sgS t E b) = d at *
  have vb := dv_bd hd.1 hin
  have svb : -99 ≤ sgV t E b (dv t (sgS t E b) d) ∧ sgV t E b (dv t (sgS t E b) d) ≤ 99 := by unfold sgV; split <;> omega
  have k := c_signed (N := N) (lo := lo) B hN P.tc (show p ≤ E by omega) ep wc (by omega) eb ed
  generalize sgV t E b (dv t (sgS t E b) d) = sv at *
  have hW : -1 ≤ sW b (sgS t E b) d sv lo (hC 3 4) ∧ sW b (sgS t E b) d sv lo (hC 3 4) ≤ 400 := by
    unfold sW
    split
    · split
      · omega
      · split <;> omega
    · exact wc
  refine ⟨_, _, k, Cs.mk (TC_3 (TC_3 (TC_3 P.tc))) (by rw [hs_slot (by omega), hs_at]; omega) (by rw [hs_at]; exact hW), ⟨fun c hc => by rw [hs_cell hc, hs_cell hc, hs_cell hc], fun j j1 j2 j3 => by rw [hs_slot j3, hs_slot j1, hs_slot j2]⟩, ?_, fun z => by rw [hs_at]; unfold sW; rw [if_neg z]⟩
  by_cases z : sW b (sgS t E b) d sv lo (hC 3 4) = -1
  · rw [if_pos z]
    unfold sW at z
    by_cases c : hC 3 4 = -1
    · rw [if_pos c] at z
      by_cases c2 : d = sgS t E b
      · rw [if_pos c2] at z; omega
      · rw [if_neg c2] at z
        by_cases c3 : sgS t E b + 2 < d ∨ sv < lo
        · rw [if_pos c3] at z; omega
        · omega
    · rw [if_neg c] at z; exact absurd z c
  · rw [if_neg z]; omega
def Ds (h : Hp) : Prop := (h 3 5 = 0 ∨ h 3 5 = 1) ∧ (h 3 6 = 0 ∨ h 3 6 = 1) ∧ (h 3 7 = 0 ∨ h 3 7 = 1) ∧ (0 ≤ h 4 1 ∧ h 4 1 ≤ 9) ∧ (0 ≤ h 4 2 ∧ h 4 2 ≤ 8) ∧ (0 ≤ h 4 3 ∧ h 4 3 ≤ 31 * h 4 2) ∧ (∀ i : Nat, (i : Int) < h 4 2 → 5 ≤ h 5 i ∧ h 5 i ≤ 31) ∧ (0 ≤ h 6 0 ∧ h 6 0 ≤ 4) ∧ (0 ≤ h 10 0 ∧ h 10 0 ≤ 4) ∧ (0 ≤ h 14 0 ∧ h 14 0 ≤ 12) ∧ (∀ f : Nat, (f : Int) < h 14 0 → (1 ≤ h 15 f ∧ h 15 f ≤ 9) ∧ -1 ≤ h 16 f ∧ h 16 f ≤ 7)
theorem Ds.f5 {h : Hp} (q_ : Ds h) : h 3 5 = 0 ∨ h 3 5 = 1 := q_.1
theorem Ds.f6 {h : Hp} (q_ : Ds h) : h 3 6 = 0 ∨ h 3 6 = 1 := q_.2.1
theorem Ds.f7 {h : Hp} (q_ : Ds h) : h 3 7 = 0 ∨ h 3 7 = 1 := q_.2.2.1
theorem Ds.wk {h : Hp} (q_ : Ds h) : 0 ≤ h 4 1 ∧ h 4 1 ≤ 9 := q_.2.2.2.1
theorem Ds.mo {h : Hp} (q_ : Ds h) : 0 ≤ h 4 2 ∧ h 4 2 ≤ 8 := q_.2.2.2.2.1
theorem Ds.yd {h : Hp} (q_ : Ds h) : 0 ≤ h 4 3 ∧ h 4 3 ≤ 31 * h 4 2 := q_.2.2.2.2.2.1
theorem Ds.dy {h : Hp} (q_ : Ds h) : ∀ i : Nat, (i : Int) < h 4 2 → 5 ≤ h 5 i ∧ h 5 i ≤ 31 := q_.2.2.2.2.2.2.1
theorem Ds.se {h : Hp} (q_ : Ds h) : 0 ≤ h 6 0 ∧ h 6 0 ≤ 4 := q_.2.2.2.2.2.2.2.1
theorem Ds.cl {h : Hp} (q_ : Ds h) : 0 ≤ h 10 0 ∧ h 10 0 ≤ 4 := q_.2.2.2.2.2.2.2.2.1
theorem Ds.fe {h : Hp} (q_ : Ds h) : 0 ≤ h 14 0 ∧ h 14 0 ≤ 12 := q_.2.2.2.2.2.2.2.2.2.1
theorem Ds.fr {h : Hp} (q_ : Ds h) : ∀ f : Nat, (f : Int) < h 14 0 → (1 ≤ h 15 f ∧ h 15 f ≤ 9) ∧ -1 ≤ h 16 f ∧ h 16 f ≤ 7 := q_.2.2.2.2.2.2.2.2.2.2
theorem Ds.mk {h : Hp} (f5_ : h 3 5 = 0 ∨ h 3 5 = 1) (f6_ : h 3 6 = 0 ∨ h 3 6 = 1) (f7_ : h 3 7 = 0 ∨ h 3 7 = 1) (wk_ : 0 ≤ h 4 1 ∧ h 4 1 ≤ 9) (mo_ : 0 ≤ h 4 2 ∧ h 4 2 ≤ 8) (yd_ : 0 ≤ h 4 3 ∧ h 4 3 ≤ 31 * h 4 2) (dy_ : ∀ i : Nat, (i : Int) < h 4 2 → 5 ≤ h 5 i ∧ h 5 i ≤ 31) (se_ : 0 ≤ h 6 0 ∧ h 6 0 ≤ 4) (cl_ : 0 ≤ h 10 0 ∧ h 10 0 ≤ 4) (fe_ : 0 ≤ h 14 0 ∧ h 14 0 ≤ 12) (fr_ : ∀ f : Nat, (f : Int) < h 14 0 → (1 ≤ h 15 f ∧ h 15 f ≤ 9) ∧ -1 ≤ h 16 f ∧ h 16 f ≤ 7) : Ds h := ⟨f5_, f6_, f7_, wk_, mo_, yd_, dy_, se_, cl_, fe_, fr_⟩
theorem Ds.fr' {h h' : Hp} (D : Ds h) (f : FrC h h') : Ds h' := by
  have q : ∀ c, c ≠ 3 → h' c = h c := f.1
  refine Ds.mk ?_ ?_ ?_ ?_ ?_ ?_ ?_ ?_ ?_ ?_ ?_
  · rw [f.2 5 (by omega) (by omega) (by omega)]; exact D.f5
  · rw [f.2 6 (by omega) (by omega) (by omega)]; exact D.f6
  · rw [f.2 7 (by omega) (by omega) (by omega)]; exact D.f7
  · rw [q 4 (by omega)]; exact D.wk
  · rw [q 4 (by omega)]; exact D.mo
  · rw [q 4 (by omega)]; exact D.yd
  · rw [q 4 (by omega), q 5 (by omega)]; exact D.dy
  · rw [q 6 (by omega)]; exact D.se
  · rw [q 10 (by omega)]; exact D.cl
  · rw [q 14 (by omega)]; exact D.fe
  · rw [q 14 (by omega), q 15 (by omega), q 16 (by omega)]; exact D.fr
theorem Cs_fr {h h' : Hp} (P : Cs t E h) (e1 : h' 1 = h 1) (e2 : h' 2 = h 2) (e3 : h' 3 2 = h 3 2) (e4 : h' 3 4 = h 3 4) : Cs t E h' := Cs.mk (TC_fr P.tc e1 e2) (by rw [e3]; exact P.pl) (by rw [e4]; exact P.wr)
end Lw

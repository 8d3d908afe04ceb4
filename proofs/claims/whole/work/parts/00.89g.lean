section Lh
variable {t : Nat → Int} {E : Nat} {h : Hp} {N : Nat}
theorem FrC_33 {v : Int} : FrC h (hs h 3 3 v) := ⟨fun c hc => hs_cell hc, fun j _ j2 _ => hs_slot j2⟩
theorem sf_season (B : TB t E) (hN : 1000 < N) (P : Cs t E h) (D : Ds h) (hb : 0 ≤ h 3 3 ∧ h 3 3 ≤ h 3 2) : Sf t E h (M_Reader_readSeason N h) := by
  unfold M_Reader_readSeason
  refine Sf_lt (fun j => ∀ s : Int, (s = 0 ∨ s = 1) → Sf t E h (j s)) (fun s z => ?_) (fun j hj => Sf_ite (fun _ => hj 0 (Or.inl rfl)) (fun _ => hj 1 (Or.inr rfl)))
  (try dsimp only)
  refine Sf_req B P D z hb (fun h3 P3 D3 _ _ => ?_)
  (try dsimp only)
  refine Sf_signed B hN P3 D3 (by omega) (fun a h5 P5 D5 _ ba => ?_)
  (try dsimp only)
  refine Sf_signed B hN P5 D5 (by omega) (fun b h7 P7 D7 _ bb => ?_)
  (try dsimp only)
  refine Sf_number B hN P7 D7 (by omega) (by omega) (fun c h9 P9 D9 _ bc => ?_)
  (try dsimp only)
  exact Sf_span (Or.inl rfl) P9 D9
theorem sf_closed (B : TB t E) (hN : 1000 < N) (P : Cs t E h) (D : Ds h) (hb : 0 ≤ h 3 3 ∧ h 3 3 ≤ h 3 2) : Sf t E h (M_Reader_readClosed N h) := by
  unfold M_Reader_readClosed
  refine Sf_lt (fun j => ∀ s : Int, (s = 0 ∨ s = 1) → Sf t E h (j s)) (fun s z => ?_) (fun j hj => Sf_ite (fun _ => hj 0 (Or.inl rfl)) (fun _ => hj 1 (Or.inr rfl)))
  (try dsimp only)
  refine Sf_req B P D z hb (fun h3 P3 D3 _ _ => ?_)
  (try dsimp only)
  refine Sf_signed B hN P3 D3 (by omega) (fun a h5 P5 D5 _ ba => ?_)
  (try dsimp only)
  refine Sf_signed B hN P5 D5 (by omega) (fun b h7 P7 D7 _ bb => ?_)
  (try dsimp only)
  exact Sf_span (Or.inr rfl) P7 D7
theorem nb_num (B : TB t E) (hN : 1000 < N) (P : Cs t E h) {lo hi : Int} (hl : -100000 ≤ lo ∧ lo ≤ 100000) (hh : -100000 ≤ hi ∧ hi ≤ 100000) {v : Int} {h' : Hp} (e : M_Reader_readNumber N h lo hi = some (v, h')) : 0 ≤ h' 3 3 ∧ h' 3 3 ≤ h' 3 2 := by
  have pc := P.pl
  have wc := P.wr
  obtain ⟨p, ep⟩ : ∃ p : Nat, h 3 2 = (p : Int) := ⟨(h 3 2).toNat, by omega⟩
  have hb := sc_bd (f := bl t) (show p ≤ E by omega)
  generalize eb : sc (bl t) E p = b at *
  have hd := sc_bd (f := dg t) hb.2
  generalize ed : sc (dg t) E b = d at *
  have k := c_number (N := N) B hN P.tc (show p ≤ E by omega) ep wc hl hh eb ed
  rw [e] at k
  have k2 : h' = hs (hs (hs h 3 3 (b : Int)) 3 2 (d : Int)) 3 4 (nW t b d lo hi (h 3 4)) := (Prod.mk.inj (Option.some.inj k)).2
  rw [k2, hs_slot (by omega), hs_slot (by omega), hs_at, hs_slot (by omega), hs_at]
  omega
theorem sf_fast (B : TB t E) (hN : 1000 < N) (P : Cs t E h) (D : Ds h) : Sf t E h (M_Reader_readFasting N h) := by
  have wk := D.wk
  unfold M_Reader_readFasting
  obtain ⟨v, g, e, p, f, b, w⟩ := numberC (lo := 0) (hi := h 4 1 - 1) B hN P (by omega) (by omega)
  have nb := nb_num B hN P (by omega) (by omega) e
  rw [e, pu_bs]
  refine Sf_tr w f.d ?_
  (try dsimp only)
  have Dg := D.fr' f
  refine Sf_ite (fun _ => ?_) (fun _ => ?_)
  · refine Sf_req B p Dg (Or.inr rfl) nb (fun h3 P3 D3 _ _ => ?_)
    exact Sf_w4 (Sf_ok (Cs_w P3 (by omega)) (Ds_w4 D3 (by omega)))
  · refine Sf_req B p Dg (Or.inl rfl) nb (fun h3 P3 D3 _ _ => ?_)
    exact Sf_w4 (Sf_ok (Cs_w P3 (by omega)) (Ds_w4 D3 (by omega)))
theorem sf_set (B : TB t E) (hN : 1000 < N) (P : Cs t E h) (D : Ds h) {k j : Nat} (hk : 5 ≤ k) (hj : 4 ≤ j) {lo hi : Int} (hl : -100000 ≤ lo ∧ lo ≤ 100000) (hh : -100000 ≤ hi ∧ hi ≤ 100000) :
    Sf t E h (ckB 1 (lt' (hs h 3 k 1) (fun h29 => (M_Reader_readNumber N h29 lo hi).bind (fun q31 => lt' (hs q31.2 4 j q31.1) (fun h32 => some h32))))) := by
  rw [pu_c1]
  refine Sf_w3 (by omega) ?_
  refine Sf_number B hN (Cs_w3 P (by omega)) (Ds_w3 D (Or.inr rfl)) hl hh (fun v g Pg Dg _ _ => ?_)
  exact Sf_w4 (Sf_ok (Cs_w Pg (by omega)) (Ds_w4 Dg hj))
theorem sf_setting (B : TB t E) (hN : 1000 < N) (P : Cs t E h) (D : Ds h) (hb : 0 ≤ h 3 3 ∧ h 3 3 ≤ h 3 2) : Sf t E h (M_Reader_readSetting N h) := by
  unfold M_Reader_readSetting
  refine Sf_isWord B hN P (by omega) hb (fun x2 z2 => ?_)
  (try dsimp only)
  refine Sf_lt (fun j => Sf t E h j) ?_ (fun j hj => Sf_if0 z2 (fun _ => hj) (fun _ => Sf_if0 D.f5 (fun _ => sf_set B hN P D (by omega) (by omega) (by omega) (by omega)) (fun _ => hj)))
  refine Sf_isWord B hN P (by omega) hb (fun x9 z9 => ?_)
  (try dsimp only)
  refine Sf_lt (fun j => Sf t E h j) ?_ (fun j hj => Sf_if0 z9 (fun _ => hj) (fun _ => Sf_if0 D.f6 (fun _ => sf_set B hN P D (by omega) (by omega) (by omega) (by omega)) (fun _ => hj)))
  refine Sf_isWord B hN P (by omega) hb (fun x16 z16 => ?_)
  (try dsimp only)
  have no : Sf t E h ((M_Reader_require h 0).bind (fun y => some y)) := Sf_req B P D (Or.inl rfl) hb (fun h' P' D' _ _ => Sf_ok P' D')
  exact Sf_if0 z16 (fun _ => no) (fun _ => Sf_if0 D.f7 (fun _ => sf_set B hN P D (by omega) (by omega) (by omega) (by omega)) (fun _ => no))
theorem lastC (D : Ds h) {m : Int} (hm : -1 ≤ m ∧ m ≤ 7) : ∃ x, M_Reader_lastDayOf h m = some x ∧ -1 ≤ x ∧ x ≤ 31 := by
  have mo := D.mo
  unfold M_Reader_lastDayOf
  by_cases c : m < 0
  · rw [if_pos (by rw [ltb_iff (by omega) (by omega) (by omega) (by omega)]; exact c)]; exact ⟨_, rfl, by omega, by omega⟩
  · rw [if_neg (by rw [ltb_iff (by omega) (by omega) (by omega) (by omega)]; exact c)]
    by_cases c2 : h 4 2 ≤ m
    · rw [if_pos (by rw [leb_iff (by omega) (by omega) (by omega) (by omega)]; exact c2)]; exact ⟨_, rfl, by omega, by omega⟩
    · rw [if_neg (by rw [leb_iff (by omega) (by omega) (by omega) (by omega)]; exact c2), pu_rd (by omega) (by omega), pu_bs]
      have := D.dy m.toNat (by omega)
      exact ⟨_, rfl, by omega, by omega⟩
def feTC (N : Nat) (r m d : Int) (h : Hp) : Option Hp := (M_Reader_readLaw N h).bind (fun q26 => (M_Reader_readOption N q26.2 10).bind (fun q28 => (M_Reader_readOption N q28.2 11).bind (fun q30 => (M_Feasts_add q30.2 14 r m d q26.1 q28.1 q30.1).bind (fun h32 => some h32))))
theorem sf_feT (B : TB t E) (hN : 1000 < N) (P : Cs t E h) (D : Ds h) {r m d : Int} (hr : 1 ≤ r ∧ r ≤ 9) (hm : -1 ≤ m ∧ m ≤ 7) : Sf t E h (feTC N r m d h) := by
  unfold feTC
  refine Sf_law B hN P D (fun l h1 P1 D1 _ => ?_)
  (try dsimp only)
  refine Sf_option B hN P1 D1 (by omega) (fun v h2 P2 D2 _ => ?_)
  (try dsimp only)
  refine Sf_option B hN P2 D2 (by omega) (fun o h3 P3 D3 _ => ?_)
  (try dsimp only)
  exact Sf_feast P3 D3 hr hm
def feWC (N : Nat) (r : Int) (h : Hp) : Option Hp := (M_Reader_readWord N h).bind (fun h7 => (M_Reader_isWord N h7 4).bind (fun x9 => lt' (fun (s0_12 : Int) => (M_Reader_require h7 s0_12).bind (fun h14 => lt' (fun (s0_17 : Int) (h_17 : Hp) => lt' (fun (s0_24 : Int) (h_24 : Hp) => feTC N r s0_17 s0_24 h_24) (fun j24 => if eqb x9 0 then (M_Reader_lastDayOf h_17 s0_17).bind (fun x34 => (M_Reader_readNumber N h_17 0 x34).bind (fun q36 => j24 q36.1 q36.2)) else (M_Reader_readSigned N h_17 (-99)).bind (fun q38 => j24 q38.1 q38.2))) (fun j17 => if eqb x9 0 then (M_Reader_readNumber N h14 0 ((h14 4 2) - 1)).bind (fun q40 => j17 q40.1 q40.2) else j17 (-1) h14))) (fun j12 => if eqb x9 0 then (M_Reader_isWord N h7 5).bind (fun x42 => if eqb x42 0 then j12 0 else j12 1) else j12 1)))
theorem feast_eq : M_Reader_readFeast N h = lt' (fun (s0_1 : Int) => (M_Reader_require h s0_1).bind (fun h3 => (M_Reader_readNumber N h3 1 9).bind (fun q5 => feWC N q5.1 q5.2))) (fun j1 => if leb 12 (h 14 0) then j1 0 else j1 1) := by
  unfold M_Reader_readFeast feWC feTC
  exact Eq.trans rfl rfl
theorem sf_feW (B : TB t E) (hN : 1000 < N) (P : Cs t E h) (D : Ds h) {r : Int} (hr : 1 ≤ r ∧ r ≤ 9) : Sf t E h (feWC N r h) := by
  unfold feWC
  refine Sf_word B hN P D (fun h7 P7 D7 _ b7 => ?_)
  (try dsimp only)
  refine Sf_isWord B hN P7 (by omega) b7 (fun x9 z9 => ?_)
  (try dsimp only)
  refine Sf_lt (fun j => ∀ s : Int, (s = 0 ∨ s = 1) → Sf t E h7 (j s)) (fun s z => ?_) (fun j hj => Sf_if0 z9 (fun _ => Sf_isWord B hN P7 (by omega) b7 (fun x z => Sf_if0 z (fun _ => hj 0 (Or.inl rfl)) (fun _ => hj 1 (Or.inr rfl)))) (fun _ => hj 1 (Or.inr rfl)))
  (try dsimp only)
  refine Sf_req B P7 D7 z b7 (fun h14 P14 D14 _ _ => ?_)
  (try dsimp only)
  have mo := D14.mo
  refine Sf_lt (fun j => ∀ (m : Int) (g : Hp), Cs t E g → Ds g → (-1 ≤ m ∧ m ≤ 7) → Sf t E g (j m g)) (fun m g Pg Dg hm => ?_) (fun j hj => Sf_if0 z9 (fun _ => Sf_number B hN P14 D14 (by omega) (by omega) (fun v g Pg Dg _ bv => hj v g Pg Dg (by omega))) (fun _ => hj (-1) h14 P14 D14 (by omega)))
  (try dsimp only)
  obtain ⟨x, ex, bx⟩ := lastC Dg hm
  refine Sf_lt (fun j => ∀ (d : Int) (g : Hp), Cs t E g → Ds g → Sf t E g (j d g)) (fun d g' Pg' Dg' => sf_feT B hN Pg' Dg' hr hm) (fun j hj => Sf_if0 z9 (fun _ => ?_) (fun _ => Sf_signed B hN Pg Dg (by omega) (fun v g' Pg' Dg' _ _ => hj v g' Pg' Dg')))
  rw [ex, pu_bs]
  exact Sf_number B hN Pg Dg (by omega) (by omega) (fun v g' Pg' Dg' _ _ => hj v g' Pg' Dg')
theorem sf_feastL (B : TB t E) (hN : 1000 < N) (P : Cs t E h) (D : Ds h) (hb : 0 ≤ h 3 3 ∧ h 3 3 ≤ h 3 2) : Sf t E h (M_Reader_readFeast N h) := by
  rw [feast_eq]
  refine Sf_lt (fun j => ∀ s : Int, (s = 0 ∨ s = 1) → Sf t E h (j s)) (fun s z => ?_) (fun j hj => Sf_ite (fun _ => hj 0 (Or.inl rfl)) (fun _ => hj 1 (Or.inr rfl)))
  (try dsimp only)
  refine Sf_req B P D z hb (fun h3 P3 D3 _ _ => ?_)
  (try dsimp only)
  refine Sf_number B hN P3 D3 (by omega) (by omega) (fun r g Pg Dg _ br => ?_)
  (try dsimp only)
  exact sf_feW B hN Pg Dg (by omega)
def liTC (N : Nat) (h6 : Hp) : Option Hp := (M_Reader_isWord N h6 3).bind (fun x8 => if eqb x8 0 then (M_Reader_isWord N h6 12).bind (fun x10 => if eqb x10 0 then (M_Reader_isWord N h6 13).bind (fun x12 => if eqb x12 0 then (M_Reader_isWord N h6 14).bind (fun x14 => if eqb x14 0 then (M_Reader_readSetting N h6).bind (fun h16 => some h16) else (M_Reader_readFasting N h6).bind (fun h18 => some h18)) else (M_Reader_readClosed N h6).bind (fun h20 => some h20)) else (M_Reader_readSeason N h6).bind (fun h22 => some h22)) else (M_Reader_readFeast N h6).bind (fun h24 => some h24))
theorem line_eq {a : Int} : M_Reader_readLine N h a = lt' (hs h 3 2 ((h 3 2) + 1)) (fun h1 => (M_Reader_readWord N h1).bind (fun h3 => lt' (fun (s0_4 : Int) => (M_Reader_require h3 s0_4).bind (fun h6 => liTC N h6)) (fun j4 => if leb 24 a then j4 0 else j4 1))) := by
  unfold M_Reader_readLine liTC
  exact Eq.trans rfl rfl
theorem sf_liT (B : TB t E) (hN : 1000 < N) (P : Cs t E h) (D : Ds h) (hb : 0 ≤ h 3 3 ∧ h 3 3 ≤ h 3 2) : Sf t E h (liTC N h) := by
  unfold liTC
  refine Sf_isWord B hN P (by omega) hb (fun x8 z8 => Sf_if0 z8 (fun _ => ?_) (fun _ => Sf_id (sf_feastL B hN P D hb)))
  refine Sf_isWord B hN P (by omega) hb (fun x10 z10 => Sf_if0 z10 (fun _ => ?_) (fun _ => Sf_id (sf_season B hN P D hb)))
  refine Sf_isWord B hN P (by omega) hb (fun x12 z12 => Sf_if0 z12 (fun _ => ?_) (fun _ => Sf_id (sf_closed B hN P D hb)))
  exact Sf_isWord B hN P (by omega) hb (fun x14 z14 => Sf_if0 z14 (fun _ => Sf_id (sf_setting B hN P D hb)) (fun _ => Sf_id (sf_fast B hN P D)))
theorem Sf_next (P : Cs t E h) (D : Ds h) (hp : h 3 2 < (E : Int)) {K : Hp → Option Hp} (k : Cs t E (hs h 3 2 (h 3 2 + 1)) → Ds (hs h 3 2 (h 3 2 + 1)) → Sf t E (hs h 3 2 (h 3 2 + 1)) (K (hs h 3 2 (h 3 2 + 1)))) : Sf t E h (lt' (hs h 3 2 (h 3 2 + 1)) K) := by
  have pl := P.pl
  refine Sf_w3 (by omega) (k (Cs.mk (TC_3 P.tc) (by rw [hs_at]; omega) (by rw [hs_slot (by omega)]; exact P.wr)) (D.fr' ⟨fun c hc => hs_cell hc, fun j j1 _ _ => hs_slot j1⟩))
theorem sf_line (B : TB t E) (hN : 1000 < N) (P : Cs t E h) (D : Ds h) (hp : h 3 2 < (E : Int)) {a : Int} : Sf t E h (M_Reader_readLine N h a) := by
  rw [line_eq]
  refine Sf_next P D hp (fun P1 D1 => ?_)
  refine Sf_word B hN P1 D1 (fun h3 P3 D3 _ b3 => ?_)
  (try dsimp only)
  refine Sf_lt (fun j => ∀ s : Int, (s = 0 ∨ s = 1) → Sf t E h3 (j s)) (fun s z => ?_) (fun j hj => Sf_ite (fun _ => hj 0 (Or.inl rfl)) (fun _ => hj 1 (Or.inr rfl)))
  (try dsimp only)
  exact Sf_req B P3 D3 z b3 (fun h6 P6 D6 _ b6 => sf_liT B hN P6 D6 b6)
end Lh

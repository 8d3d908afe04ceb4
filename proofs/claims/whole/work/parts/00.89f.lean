section Lf
variable {t : Nat → Int} {E : Nat} {h : Hp} {N : Nat}
def FrD (h h' : Hp) : Prop := ∀ c, (c < 3 ∨ 22 < c) → h' c = h c
theorem FrC.d {h h' : Hp} (f : FrC h h') : FrD h h' := fun c hc => f.1 c (by omega)
def Sf (t : Nat → Int) (E : Nat) (h : Hp) (x : Option Hp) : Prop := ∃ h', x = some h' ∧ Cs t E h' ∧ Ds h' ∧ (h 3 4 ≠ -1 → h' 3 4 = h 3 4) ∧ FrD h h'
theorem Sf_ok (P : Cs t E h) (D : Ds h) : Sf t E h (some h) := ⟨h, rfl, P, D, fun _ => rfl, fun _ _ => rfl⟩
theorem Sf_tr {h h1 : Hp} {x : Option Hp} (w : h 3 4 ≠ -1 → h1 3 4 = h 3 4) (f : FrD h h1) (s : Sf t E h1 x) : Sf t E h x := by
  obtain ⟨h', e, p, d, w', f'⟩ := s
  exact ⟨h', e, p, d, fun z => by rw [w' (by rw [w z]; exact z), w z], fun c hc => by rw [f' c hc, f c hc]⟩
theorem Sf_lt {γ : Type} {F : γ} {G : γ → Option Hp} (J : γ → Prop) (hF : J F) (hG : ∀ j, J j → Sf t E h (G j)) : Sf t E h (lt' F G) := by rw [pu_lt]; exact hG F hF
theorem Sf_id {x : Option Hp} (s : Sf t E h x) : Sf t E h (x.bind (fun y => some y)) := by
  obtain ⟨h', e, r⟩ := s
  exact ⟨h', by rw [e, pu_bs], r⟩
theorem Sf_number (B : TB t E) (hN : 1000 < N) (P : Cs t E h) (D : Ds h) {lo hi : Int} (hl : -100000 ≤ lo ∧ lo ≤ 100000) (hh : -100000 ≤ hi ∧ hi ≤ 100000) {K : Int × Hp → Option Hp}
    (k : ∀ v h', Cs t E h' → Ds h' → FrC h h' → (v = lo ∨ (lo ≤ v ∧ v ≤ hi)) → Sf t E h' (K (v, h'))) : Sf t E h ((M_Reader_readNumber N h lo hi).bind K) := by
  obtain ⟨v, h', e, p, f, b, w⟩ := numberC B hN P hl hh
  rw [e, pu_bs]
  exact Sf_tr w f.d (k v h' p (D.fr' f) f b)
theorem Sf_signed (B : TB t E) (hN : 1000 < N) (P : Cs t E h) (D : Ds h) {lo : Int} (hl : -99 ≤ lo ∧ lo ≤ 99) {K : Int × Hp → Option Hp}
    (k : ∀ v h', Cs t E h' → Ds h' → FrC h h' → (lo ≤ v ∧ v ≤ 99) → Sf t E h' (K (v, h'))) : Sf t E h ((M_Reader_readSigned N h lo).bind K) := by
  obtain ⟨v, h', e, p, f, b, w⟩ := signedC B hN P hl
  rw [e, pu_bs]
  exact Sf_tr w f.d (k v h' p (D.fr' f) f b)
theorem Sf_word (B : TB t E) (hN : 1000 < N) (P : Cs t E h) (D : Ds h) {K : Hp → Option Hp}
    (k : ∀ h', Cs t E h' → Ds h' → FrC h h' → (0 ≤ h' 3 3 ∧ h' 3 3 ≤ h' 3 2) → Sf t E h' (K h')) : Sf t E h ((M_Reader_readWord N h).bind K) := by
  obtain ⟨h', e, p, f, w, b⟩ := wordC B hN P
  rw [e, pu_bs]
  exact Sf_tr (fun _ => w) f.d (k h' p (D.fr' f) f b)
theorem Sf_isWord (B : TB t E) (hN : 1000 < N) (P : Cs t E h) {w : Nat} (hw : w < 36) (hb : 0 ≤ h 3 3 ∧ h 3 3 ≤ h 3 2) {K : Int → Option Hp}
    (k : ∀ r, (r = 0 ∨ r = 1) → Sf t E h (K r)) : Sf t E h ((M_Reader_isWord N h w).bind K) := by
  obtain ⟨r, e, z⟩ := isWordC B hN P hw hb
  rw [e, pu_bs]
  exact k r z
theorem Sf_req (B : TB t E) (P : Cs t E h) (D : Ds h) {a : Int} (ha : a = 0 ∨ a = 1) (hb : 0 ≤ h 3 3 ∧ h 3 3 ≤ h 3 2) {K : Hp → Option Hp}
    (k : ∀ h', Cs t E h' → Ds h' → FrC h h' → (0 ≤ h' 3 3 ∧ h' 3 3 ≤ h' 3 2) → Sf t E h' (K h')) : Sf t E h ((M_Reader_require h a).bind K) := by
  have he := B.e
  have pl := P.pl
  obtain ⟨h', e, p, f, e2, e3, w⟩ := reqC P ha (by omega)
  rw [e, pu_bs]
  exact Sf_tr w f.d (k h' p (D.fr' f) f (by rw [e2, e3]; exact hb))
theorem Sf_if0 {r : Int} (z : r = 0 ∨ r = 1) {x y : Option Hp} (a : r = 0 → Sf t E h x) (c : r = 1 → Sf t E h y) : Sf t E h (if eqb r 0 then x else y) := by
  rcases z with z | z
  · rw [z, if_pos eq00]; exact a z
  · rw [z, if_neg ne10]; exact c z
theorem Sf_ite {c : Prop} [Decidable c] {x y : Option Hp} (a : c → Sf t E h x) (d : ¬ c → Sf t E h y) : Sf t E h (if c then x else y) := by
  by_cases z : c
  · rw [if_pos z]; exact a z
  · rw [if_neg z]; exact d z
theorem lawC (B : TB t E) (hN : 1000 < N) (P : Cs t E h) : ∃ v h', M_Reader_readLaw N h = some (v, h') ∧ Cs t E h' ∧ FrC h h' ∧ (h 3 4 ≠ -1 → h' 3 4 = h 3 4) := by
  have he := B.e
  obtain ⟨G, e, p, f, w, b⟩ := wordC B hN P
  have pl := p.pl
  obtain ⟨r6, a6, z6⟩ := isWordC (w := 6) B hN p (by omega) b
  obtain ⟨r7, a7, z7⟩ := isWordC (w := 7) B hN p (by omega) b
  obtain ⟨r8, a8, z8⟩ := isWordC (w := 8) B hN p (by omega) b
  obtain ⟨r9, a9, z9⟩ := isWordC (w := 9) B hN p (by omega) b
  obtain ⟨G', e', p', f', _, _, w'⟩ := reqC p z9 (by omega)
  unfold M_Reader_readLaw
  rw [e, pu_bs, a6, pu_bs, a7, pu_bs, a8, pu_bs, a9, pu_bs, e', pu_bs]
  rcases z6 with z | z
  · rw [z, if_pos eq00]
    rcases z7 with z | z
    · rw [z, if_pos eq00]
      rcases z8 with z | z
      · rw [z, if_pos eq00]
        exact ⟨3, G', rfl, p', f.trans f', fun y => by rw [w' (by rw [w]; exact y), w]⟩
      · rw [z, if_neg ne10]; exact ⟨2, G, rfl, p, f, fun _ => w⟩
    · rw [z, if_neg ne10]; exact ⟨1, G, rfl, p, f, fun _ => w⟩
  · rw [z, if_neg ne10]; exact ⟨0, G, rfl, p, f, fun _ => w⟩
theorem optionC (B : TB t E) (hN : 1000 < N) (P : Cs t E h) {o : Nat} (ho : o < 36) : ∃ v h', M_Reader_readOption N h o = some (v, h') ∧ Cs t E h' ∧ FrC h h' ∧ (h 3 4 ≠ -1 → h' 3 4 = h 3 4) := by
  have pl0 := P.pl
  obtain ⟨G, e, p, f, w, b⟩ := wordC B hN P
  obtain ⟨r, a, z⟩ := isWordC (w := o) B hN p ho b
  unfold M_Reader_readOption
  rw [e, pu_bs, a, pu_bs]
  rcases z with z | z
  · rw [z, if_pos eq00, pu_lt]
    exact ⟨0, _, rfl, Cs.mk (TC_3 p.tc) (by rw [hs_at]; exact pl0) (by rw [hs_slot (by omega)]; exact p.wr), f.trans ⟨fun c hc => hs_cell hc, fun j j1 _ _ => hs_slot j1⟩, fun _ => by rw [hs_slot (by omega), w]⟩
  · rw [z, if_neg ne10]
    obtain ⟨v, h', e', p', f', _, w'⟩ := numberC B hN p (lo := 1) (hi := 9) (by omega) (by omega)
    rw [e', pu_bs]
    exact ⟨v, h', rfl, p', f.trans f', fun y => by rw [w' (by rw [w]; exact y), w]⟩
theorem Sf_law (B : TB t E) (hN : 1000 < N) (P : Cs t E h) (D : Ds h) {K : Int × Hp → Option Hp} (k : ∀ v h', Cs t E h' → Ds h' → FrC h h' → Sf t E h' (K (v, h'))) : Sf t E h ((M_Reader_readLaw N h).bind K) := by
  obtain ⟨v, h', e, p, f, w⟩ := lawC B hN P
  rw [e, pu_bs]
  exact Sf_tr w f.d (k v h' p (D.fr' f) f)
theorem Sf_option (B : TB t E) (hN : 1000 < N) (P : Cs t E h) (D : Ds h) {o : Nat} (ho : o < 36) {K : Int × Hp → Option Hp} (k : ∀ v h', Cs t E h' → Ds h' → FrC h h' → Sf t E h' (K (v, h'))) : Sf t E h ((M_Reader_readOption N h o).bind K) := by
  obtain ⟨v, h', e, p, f, w⟩ := optionC B hN P ho
  rw [e, pu_bs]
  exact Sf_tr w f.d (k v h' p (D.fr' f) f)
theorem Ds_fr {h h' : Hp} (D : Ds h) (e3 : ∀ j, 5 ≤ j → j ≤ 7 → h' 3 j = h 3 j) (e4 : ∀ j, 1 ≤ j → j ≤ 3 → h' 4 j = h 4 j) (e : ∀ c, (c = 5 ∨ c = 6 ∨ c = 10 ∨ c = 14 ∨ c = 15 ∨ c = 16) → h' c = h c) : Ds h' := by
  refine Ds.mk ?_ ?_ ?_ ?_ ?_ ?_ ?_ ?_ ?_ ?_ ?_
  · rw [e3 5 (by omega) (by omega)]; exact D.f5
  · rw [e3 6 (by omega) (by omega)]; exact D.f6
  · rw [e3 7 (by omega) (by omega)]; exact D.f7
  · rw [e4 1 (by omega) (by omega)]; exact D.wk
  · rw [e4 2 (by omega) (by omega)]; exact D.mo
  · rw [e4 2 (by omega) (by omega), e4 3 (by omega) (by omega)]; exact D.yd
  · rw [e4 2 (by omega) (by omega), e 5 (by omega)]; exact D.dy
  · rw [e 6 (by omega)]; exact D.se
  · rw [e 10 (by omega)]; exact D.cl
  · rw [e 14 (by omega)]; exact D.fe
  · rw [e 14 (by omega), e 15 (by omega), e 16 (by omega)]; exact D.fr
theorem Cs_w {c k : Nat} {v : Int} (P : Cs t E h) (hc : 4 ≤ c) : Cs t E (hs h c k v) := Cs_fr P (hs_cell (by omega)) (hs_cell (by omega)) (by rw [hs_cell (by omega)]) (by rw [hs_cell (by omega)])
theorem Cs_w3 {k : Nat} {v : Int} (P : Cs t E h) (hc : k ≠ 2 ∧ k ≠ 4) : Cs t E (hs h 3 k v) := Cs_fr P (hs_cell (by omega)) (hs_cell (by omega)) (hs_slot (by omega)) (hs_slot (by omega))
theorem Ds_w4 {k : Nat} {v : Int} (D : Ds h) (hk : 4 ≤ k) : Ds (hs h 4 k v) := Ds_fr D (fun j _ _ => by rw [hs_cell (by omega)]) (fun j j1 j2 => hs_slot (by omega)) (fun c hc => hs_cell (by omega))
theorem Ds_wk {v : Int} (D : Ds h) (hv : 0 ≤ v ∧ v ≤ 9) : Ds (hs h 4 1 v) := by
  refine Ds.mk ?_ ?_ ?_ ?_ ?_ ?_ ?_ ?_ ?_ ?_ ?_
  · rw [hs_cell (by omega)]; exact D.f5
  · rw [hs_cell (by omega)]; exact D.f6
  · rw [hs_cell (by omega)]; exact D.f7
  · rw [hs_at]; exact hv
  · rw [hs_slot (by omega)]; exact D.mo
  · rw [hs_slot (by omega), hs_slot (by omega)]; exact D.yd
  · rw [hs_slot (by omega), hs_cell (by omega)]; exact D.dy
  · rw [hs_cell (by omega)]; exact D.se
  · rw [hs_cell (by omega)]; exact D.cl
  · rw [hs_cell (by omega)]; exact D.fe
  · rw [hs_cell (by omega), hs_cell (by omega), hs_cell (by omega)]; exact D.fr
theorem Ds_w3 {k : Nat} {v : Int} (D : Ds h) (hv : v = 0 ∨ v = 1) : Ds (hs h 3 k v) := by
  refine Ds.mk ?_ ?_ ?_ ?_ ?_ ?_ ?_ ?_ ?_ ?_ ?_
  · by_cases c : 5 = k
    · subst c; rw [hs_at]; exact hv
    · rw [hs_slot c]; exact D.f5
  · by_cases c : 6 = k
    · subst c; rw [hs_at]; exact hv
    · rw [hs_slot c]; exact D.f6
  · by_cases c : 7 = k
    · subst c; rw [hs_at]; exact hv
    · rw [hs_slot c]; exact D.f7
  · rw [hs_cell (by omega)]; exact D.wk
  · rw [hs_cell (by omega)]; exact D.mo
  · rw [hs_cell (by omega)]; exact D.yd
  · rw [hs_cell (by omega), hs_cell (by omega)]; exact D.dy
  · rw [hs_cell (by omega)]; exact D.se
  · rw [hs_cell (by omega)]; exact D.cl
  · rw [hs_cell (by omega)]; exact D.fe
  · rw [hs_cell (by omega), hs_cell (by omega), hs_cell (by omega)]; exact D.fr
theorem Sf_w4 {k : Nat} {v : Int} {K : Hp → Option Hp} (s : Sf t E (hs h 4 k v) (K (hs h 4 k v))) : Sf t E h (lt' (hs h 4 k v) K) := by
  rw [pu_lt]
  exact Sf_tr (fun _ => by rw [hs_cell (by omega)]) (fun c hc => hs_cell (by omega)) s
theorem Sf_w3 {k : Nat} {v : Int} {K : Hp → Option Hp} (hk : k ≠ 4) (s : Sf t E (hs h 3 k v) (K (hs h 3 k v))) : Sf t E h (lt' (hs h 3 k v) K) := by
  rw [pu_lt]
  exact Sf_tr (fun _ => by rw [hs_slot (by omega)]) (fun c hc => hs_cell (by omega)) s
theorem Sf_month (P : Cs t E h) (D : Ds h) {v : Int} (hv : 5 ≤ v ∧ v ≤ 31) {K : Hp → Option Hp} (k : ∀ h', Cs t E h' → Ds h' → (∀ j, j ≠ 2 → j ≠ 3 → h' 4 j = h 4 j) → Sf t E h' (K h')) : Sf t E h ((M_Book_addMonth h 4 v).bind K) := by
  have mo := D.mo
  have yd := D.yd
  obtain ⟨n, en⟩ : ∃ n : Nat, h 4 2 = (n : Int) := ⟨(h 4 2).toNat, by omega⟩
  rw [c_addMonth (n := n) (by omega) en, pu_bs]
  by_cases c : n = 8
  · rw [if_pos c]; exact k h P D (fun _ _ _ => rfl)
  · rw [if_neg c]
    have g2 : hs (hs (hs h 5 n v) 4 2 ((n + 1 : Nat) : Int)) 4 3 (h 4 3 + v) 4 2 = ((n + 1 : Nat) : Int) := by rw [hs_slot (by omega), hs_at]
    have g3 : hs (hs (hs h 5 n v) 4 2 ((n + 1 : Nat) : Int)) 4 3 (h 4 3 + v) 4 3 = h 4 3 + v := hs_at
    have g5 : hs (hs (hs h 5 n v) 4 2 ((n + 1 : Nat) : Int)) 4 3 (h 4 3 + v) 5 = pu_up (h 5) n v := by rw [hs_cell (by omega), hs_cell (by omega), hs_up]
    have gj : ∀ j, j ≠ 2 → j ≠ 3 → hs (hs (hs h 5 n v) 4 2 ((n + 1 : Nat) : Int)) 4 3 (h 4 3 + v) 4 j = h 4 j := fun j j1 j2 => by rw [hs_slot j2, hs_slot j1, hs_cell (by omega)]
    have gc : ∀ c, c ≠ 4 → c ≠ 5 → hs (hs (hs h 5 n v) 4 2 ((n + 1 : Nat) : Int)) 4 3 (h 4 3 + v) c = h c := fun c c1 c2 => by rw [hs_cell c1, hs_cell c1, hs_cell c2]
    generalize hs (hs (hs h 5 n v) 4 2 ((n + 1 : Nat) : Int)) 4 3 (h 4 3 + v) = G at *
    refine Sf_tr (fun _ => by rw [gc 3 (by omega) (by omega)]) (fun c hc => gc c (by omega) (by omega)) (k G (Cs_fr P (gc 1 (by omega) (by omega)) (gc 2 (by omega) (by omega)) (by rw [gc 3 (by omega) (by omega)]) (by rw [gc 3 (by omega) (by omega)])) ?_ gj)
    refine Ds.mk ?_ ?_ ?_ ?_ ?_ ?_ ?_ ?_ ?_ ?_ ?_
    · rw [gc 3 (by omega) (by omega)]; exact D.f5
    · rw [gc 3 (by omega) (by omega)]; exact D.f6
    · rw [gc 3 (by omega) (by omega)]; exact D.f7
    · rw [gj 1 (by omega) (by omega)]; exact D.wk
    · rw [g2]; omega
    · rw [g2, g3]; omega
    · rw [g2, g5]
      intro i hi
      unfold pu_up
      by_cases ci : i = n
      · rw [if_pos ci]; exact hv
      · rw [if_neg ci]; exact D.dy i (by omega)
    · rw [gc 6 (by omega) (by omega)]; exact D.se
    · rw [gc 10 (by omega) (by omega)]; exact D.cl
    · rw [gc 14 (by omega) (by omega)]; exact D.fe
    · rw [gc 14 (by omega) (by omega), gc 15 (by omega) (by omega), gc 16 (by omega) (by omega)]; exact D.fr
theorem Sf_span {S : Nat} (hS : S = 6 ∨ S = 10) (P : Cs t E h) (D : Ds h) {a1 a2 a3 : Int} : Sf t E h ((M_Spans_add h S a1 a2 a3).bind (fun y => some y)) := by
  have se := D.se
  have cl := D.cl
  obtain ⟨n, en⟩ : ∃ n : Nat, h S 0 = (n : Int) := ⟨(h S 0).toNat, by rcases hS with z | z <;> subst z <;> omega⟩
  have hn : n ≤ 4 := by rcases hS with z | z <;> subst z <;> omega
  rw [c_spansAdd (n := n) hn en, pu_bs]
  by_cases c : n = 4
  · rw [if_pos c]; exact Sf_ok P D
  · rw [if_neg c]
    have gc : ∀ c, c ≠ S → c ≠ S + 1 → c ≠ S + 2 → c ≠ S + 3 → hs (hs (hs (hs h (S + 1) n a1) (S + 2) n a2) (S + 3) n a3) S 0 ((n + 1 : Nat) : Int) c = h c := fun c c0 c1 c2 c3 => by rw [hs_cell c0, hs_cell c3, hs_cell c2, hs_cell c1]
    have g0 : hs (hs (hs (hs h (S + 1) n a1) (S + 2) n a2) (S + 3) n a3) S 0 ((n + 1 : Nat) : Int) S 0 = ((n + 1 : Nat) : Int) := hs_at
    generalize hs (hs (hs (hs h (S + 1) n a1) (S + 2) n a2) (S + 3) n a3) S 0 ((n + 1 : Nat) : Int) = G at *
    have gq : ∀ c, (c < 6 ∨ 13 < c) → G c = h c := fun c hc => gc c (by omega) (by omega) (by omega) (by omega)
    have gse : 0 ≤ G 6 0 ∧ G 6 0 ≤ 4 := by
      rcases hS with z | z
      · subst z; rw [g0]; omega
      · subst z; rw [gc 6 (by omega) (by omega) (by omega) (by omega)]; exact se
    have gcl : 0 ≤ G 10 0 ∧ G 10 0 ≤ 4 := by
      rcases hS with z | z
      · subst z; rw [gc 10 (by omega) (by omega) (by omega) (by omega)]; exact cl
      · subst z; rw [g0]; omega
    refine ⟨G, rfl, Cs_fr P (gq 1 (by omega)) (gq 2 (by omega)) (by rw [gq 3 (by omega)]) (by rw [gq 3 (by omega)]), ?_, fun _ => by rw [gq 3 (by omega)], fun c hc => gq c (by omega)⟩
    refine Ds.mk ?_ ?_ ?_ ?_ ?_ ?_ ?_ gse gcl ?_ ?_
    · rw [gq 3 (by omega)]; exact D.f5
    · rw [gq 3 (by omega)]; exact D.f6
    · rw [gq 3 (by omega)]; exact D.f7
    · rw [gq 4 (by omega)]; exact D.wk
    · rw [gq 4 (by omega)]; exact D.mo
    · rw [gq 4 (by omega)]; exact D.yd
    · rw [gq 4 (by omega), gq 5 (by omega)]; exact D.dy
    · rw [gq 14 (by omega)]; exact D.fe
    · rw [gq 14 (by omega), gq 15 (by omega), gq 16 (by omega)]; exact D.fr
theorem Sf_feast (P : Cs t E h) (D : Ds h) {r m d l v o : Int} (hr : 1 ≤ r ∧ r ≤ 9) (hm : -1 ≤ m ∧ m ≤ 7) : Sf t E h ((M_Feasts_add h 14 r m d l v o).bind (fun y => some y)) := by
  have fe := D.fe
  obtain ⟨n, en⟩ : ∃ n : Nat, h 14 0 = (n : Int) := ⟨(h 14 0).toNat, by omega⟩
  rw [c_feastsAdd (n := n) (by omega) en, pu_bs]
  by_cases c : n = 12
  · rw [if_pos c]; exact Sf_ok P D
  · rw [if_neg c]
    generalize hG : hs (hs (hs (hs (hs (hs (hs h (14 + 1) n r) (14 + 2) n m) (14 + 3) n d) (14 + 4) n l) (14 + 5) n v) (14 + 6) n o) 14 0 ((n + 1 : Nat) : Int) = G
    have gq : ∀ c, (c < 14 ∨ 20 < c) → G c = h c := fun c hc => by subst hG; rw [hs_cell (by omega), hs_cell (by omega), hs_cell (by omega), hs_cell (by omega), hs_cell (by omega), hs_cell (by omega), hs_cell (by omega)]
    have g0 : G 14 0 = ((n + 1 : Nat) : Int) := by subst hG; exact hs_at
    have g1 : G 15 = pu_up (h 15) n r := by subst hG; rw [hs_cell (by omega), hs_cell (by omega), hs_cell (by omega), hs_cell (by omega), hs_cell (by omega), hs_cell (by omega), hs_up]
    have g2 : G 16 = pu_up (h 16) n m := by subst hG; rw [hs_cell (by omega), hs_cell (by omega), hs_cell (by omega), hs_cell (by omega), hs_cell (by omega), hs_up, hs_cell (by omega)]
    refine ⟨G, rfl, Cs_fr P (gq 1 (by omega)) (gq 2 (by omega)) (by rw [gq 3 (by omega)]) (by rw [gq 3 (by omega)]), ?_, fun _ => by rw [gq 3 (by omega)], fun c hc => gq c (by omega)⟩
    refine Ds.mk ?_ ?_ ?_ ?_ ?_ ?_ ?_ ?_ ?_ ?_ ?_
    · rw [gq 3 (by omega)]; exact D.f5
    · rw [gq 3 (by omega)]; exact D.f6
    · rw [gq 3 (by omega)]; exact D.f7
    · rw [gq 4 (by omega)]; exact D.wk
    · rw [gq 4 (by omega)]; exact D.mo
    · rw [gq 4 (by omega)]; exact D.yd
    · rw [gq 4 (by omega), gq 5 (by omega)]; exact D.dy
    · rw [gq 6 (by omega)]; exact D.se
    · rw [gq 10 (by omega)]; exact D.cl
    · rw [g0]; omega
    · rw [g0, g1, g2]
      intro f hf
      unfold pu_up
      by_cases ci : f = n
      · rw [if_pos ci, if_pos ci]; exact ⟨hr, hm⟩
      · rw [if_neg ci, if_neg ci]; exact D.fr f (by omega)
end Lf

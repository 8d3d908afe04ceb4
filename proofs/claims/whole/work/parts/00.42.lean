theorem lp_cont {α β : Type} (L : Nat → Int → α → Option β) (K : α → Option β) (P : Nat → α → Prop) (m : Nat)
    (h1 : ∀ n k a, k < m → P k a → ∃ a', P (k + 1) a' ∧ L (n + 1) (k : Int) a = L n ((k : Int) + 1) a')
    (h2 : ∀ n a, P m a → L (n + 1) (m : Int) a = K a) :
    ∀ n k a, k ≤ m → m - k < n → P k a → ∃ a', P m a' ∧ L n (k : Int) a = K a' := by
  intro n
  induction n with
  | zero => intro k a _ h; omega
  | succ n ih =>
    intro k a hk hn hp
    by_cases e : k < m
    · obtain ⟨a', hp', he⟩ := h1 n k a e hp
      rw [he]
      have := ih (k + 1) a' (by omega) (by omega) hp'
      rw [Int.natCast_add] at this
      exact this
    · have : k = m := by omega
      subst this
      exact ⟨a, hp, h2 n a hp⟩
theorem psc_mod {b : Nat → Int} (y : Int) : (wdy b y + psc b y) % b 0 = 0 := by
  unfold psc
  generalize wdy b y = w
  generalize ful b y = u
  have := Int.mul_ediv_add_emod (w + u) (b 0)
  rw [show w + (u + b 0 - (w + u) % b 0) = b 0 * ((w + u) / b 0) + b 0 * 1 by omega, ← Int.mul_add, Int.mul_emod_right]
section Mr
variable {b : Nat → Int} {h : Hp} {N : Nat} {l p : Int}
theorem m_toldDay (hN : 20 < N) (ok : OkB b) (hb : h 84 = b) {y : Int} (h0 : 0 ≤ y) (h1 : y ≤ 20000) (hd : h 83 13 = yd b + lp b y) (hp : h 83 15 = psc b y) {f : Nat} (hf : (f : Int) < b 42) : M_Md_toldDay N h f y = some (dyf b (lp b y) (psc b y) f) := by
  have hm := ok.many
  have yr := Yr_of ok h0
  have hy := yr.bd ok
  have htd := td_bd ok yr hf
  unfold M_Md_toldDay dyf
  rw [m_of01 (by omega), Option.bind_some, hb, m_of03 (by omega), hb, m_of02 (by omega), hb, hd, hp]
  have hti : sp_td b (lp b y) (psc b y) f = (if fq b f 1 = 1 then psc b y + fq b f 3 else sp_ms b (lp b y) (fq b f 2).toNat + fq b f 3) := rfl
  rcases (ok.fea f hf).2.1 with e | e
  · rw [if_pos e.1] at hti
    rw [e.1]
    simp only [pu_lt, pu_bs]
    rw [← hti]
    rw [m_isIn (by omega) (by omega) (by omega) (by omega) (by omega) (by omega), pu_bs, if_pos (by rw [eqb_iff (by omega) (by omega) (by omega) (by omega)])]
    by_cases c : 0 ≤ sp_td b (lp b y) (psc b y) f ∧ sp_td b (lp b y) (psc b y) f < yd b + lp b y
    · simp (disch := omega) only [leb_iff, ltb_iff, eqb_iff, pu_rmP, pu_dvP, pu_bs, pu_b0, pu_b1, pu_c0, pu_c1, pu_lt, pu_rdN, pu_wrN, hs_at, hs_cell, hs_slot, if_true, if_false, true_and, and_true, pu_rd, pu_wr, Int.reduceToNat, Int.toNat_natCast, decide_eq_true_eq, Int.add_zero, Bool.false_eq_true, if_pos, if_neg]
    · simp (disch := omega) only [leb_iff, ltb_iff, eqb_iff, pu_rmP, pu_dvP, pu_bs, pu_b0, pu_b1, pu_c0, pu_c1, pu_lt, pu_rdN, pu_wrN, hs_at, hs_cell, hs_slot, if_true, if_false, true_and, and_true, pu_rd, pu_wr, Int.reduceToNat, Int.toNat_natCast, decide_eq_true_eq, Int.add_zero, Bool.false_eq_true, if_pos, if_neg]
  · rw [if_neg (by omega)] at hti
    have hmo := ok.mon
    have hfo := m_firstOf (h := h) (N := N) (by omega) (by rw [hb]; exact ok) h0 h1 (m := (fq b f 2).toNat) (by omega)
    rw [show (((fq b f 2).toNat : Nat) : Int) = fq b f 2 by omega, hb] at hfo
    rw [e.1]
    simp only [pu_lt, pu_bs, hfo]
    rw [← hti]
    by_cases c : 0 ≤ sp_td b (lp b y) (psc b y) f ∧ sp_td b (lp b y) (psc b y) f < yd b + lp b y
    · simp (disch := omega) only [leb_iff, ltb_iff, eqb_iff, pu_rmP, pu_dvP, pu_bs, pu_b0, pu_b1, pu_c0, pu_c1, pu_lt, pu_rdN, pu_wrN, hs_at, hs_cell, hs_slot, if_true, if_false, true_and, and_true, pu_rd, pu_wr, Int.reduceToNat, Int.toNat_natCast, decide_eq_true_eq, Int.add_zero, Bool.false_eq_true, if_pos, if_neg, m_isIn]
    · simp (disch := omega) only [leb_iff, ltb_iff, eqb_iff, pu_rmP, pu_dvP, pu_bs, pu_b0, pu_b1, pu_c0, pu_c1, pu_lt, pu_rdN, pu_wrN, hs_at, hs_cell, hs_slot, if_true, if_false, true_and, and_true, pu_rd, pu_wr, Int.reduceToNat, Int.toNat_natCast, decide_eq_true_eq, Int.add_zero, Bool.false_eq_true, if_pos, if_neg, m_isIn]
theorem kps_no2 (b : Nat → Int) (l p : Int) : ∀ n j : Nat, j < n → (kps b l p n).2.1 (rk b j) ≠ 2 := by
  intro n
  induction n with
  | zero => intro j h; omega
  | succ n ih =>
    intro j hj
    rw [kps]
    have h1 : rk b j ≠ rk b n → (kps b l p n).2.1 (rk b j) ≠ 2 := fun e => ih j (by
      have : j ≠ n := fun x => e (by rw [x])
      omega)
    by_cases e : rk b j = rk b n
    · unfold kp
      split
      · dsimp only; rw [e, pu_up_at]; omega
      · split <;> (dsimp only; rw [e, pu_up_at]; omega)
    · unfold kp
      split
      · dsimp only; rw [pu_up_ne e]; exact h1 e
      · split <;> (dsimp only; rw [pu_up_ne e]; exact h1 e)
theorem Fk.fq {h h' : Hp} (a : Fk h h') : Fq h h' := ⟨fun c h1 h2 => a.1 c h1 (by omega) (by omega) (by omega), fun j _ h2 => a.2 j (by omega) (by omega) (by omega)⟩
theorem Fm.fq {h h' : Hp} (a : Fm h h') : Fq h h' := ⟨fun c h1 h2 => a.1 c h1 (by omega) (by omega) (by omega) (by omega), fun j _ h2 => a.2 j (by omega) (by omega) (by omega)⟩
theorem m_resolves (hN : 1100 < N) (ok : OkB b) (hb : h 84 = b) {y : Int} (h0 : 0 ≤ y) (h1 : y ≤ 20000) : ∃ h', M_Md_resolves N h y = some h' ∧ Fq h h' ∧ h' 83 14 = wdy b y ∧ MS b (lp b y) (psc b y) (res b (lp b y) (psc b y)) h' := by
  have hm := ok.many
  have yr := Yr_of ok h0
  have hy := yr.bd ok
  have hw := wdy_le ok y
  unfold M_Md_resolves
  have e1 := m_lengthOf (h := h) (N := N) (by omega) (by rw [hb]; exact ok) h0 h1
  rw [hb] at e1
  rw [e1, Option.bind_some, pu_lt]
  have e2 := m_weekdayOf (h := hs h 83 13 (yd b + lp b y)) (N := N) (by omega) (by rw [hs_cell (by omega), hb]; exact ok) h0 h1
  rw [hs_cell (by omega), hb] at e2
  rw [e2, Option.bind_some, pu_lt]
  have e3 := m_paschOf (h := hs (hs h 83 13 (yd b + lp b y)) 83 14 (wdy b y)) (N := N) (by omega) (by rw [hs_cell (by omega), hs_cell (by omega), hb]; exact ok) h0 h1
  rw [hs_cell (by omega), hs_cell (by omega), hb] at e3
  rw [e3, Option.bind_some, pu_lt]
  generalize hg : hs (hs (hs h 83 13 (yd b + lp b y)) 83 14 (wdy b y)) 83 15 (psc b y) = g
  have g84 : ∀ c, c ≠ 83 → g c = h c := fun c hc => by subst hg; rw [hs_cell hc, hs_cell hc, hs_cell hc]
  have g13 : g 83 13 = yd b + lp b y := by subst hg; simp (disch := omega) only [leb_iff, ltb_iff, eqb_iff, pu_rmP, pu_dvP, pu_bs, pu_b0, pu_b1, pu_c0, pu_c1, pu_lt, pu_rdN, pu_wrN, hs_at, hs_cell, hs_slot, if_true, if_false, true_and, and_true, pu_rd, pu_wr, Int.reduceToNat, Int.toNat_natCast, decide_eq_true_eq, Int.add_zero, Bool.false_eq_true, if_pos, if_neg]
  have g14 : g 83 14 = wdy b y := by subst hg; simp (disch := omega) only [leb_iff, ltb_iff, eqb_iff, pu_rmP, pu_dvP, pu_bs, pu_b0, pu_b1, pu_c0, pu_c1, pu_lt, pu_rdN, pu_wrN, hs_at, hs_cell, hs_slot, if_true, if_false, true_and, and_true, pu_rd, pu_wr, Int.reduceToNat, Int.toNat_natCast, decide_eq_true_eq, Int.add_zero, Bool.false_eq_true, if_pos, if_neg]
  have g15 : g 83 15 = psc b y := by subst hg; simp (disch := omega) only [leb_iff, ltb_iff, eqb_iff, pu_rmP, pu_dvP, pu_bs, pu_b0, pu_b1, pu_c0, pu_c1, pu_lt, pu_rdN, pu_wrN, hs_at, hs_cell, hs_slot, if_true, if_false, true_and, and_true, pu_rd, pu_wr, Int.reduceToNat, Int.toNat_natCast, decide_eq_true_eq, Int.add_zero, Bool.false_eq_true, if_pos, if_neg]
  have gj : ∀ j, (j < 13 ∨ 15 < j) → g 83 j = h 83 j := fun j hj => by subst hg; rw [hs_slot (by omega), hs_slot (by omega), hs_slot (by omega)]
  clear hg e1 e2 e3
  generalize hl : lp b y = l at *
  generalize hp : psc b y = p at *
  obtain ⟨a, ⟨a1, a2⟩, ea⟩ := lp_cont (fun n k x => Md_resolves_L29 N (fun v2_12 h_12 => Md_resolves_L59 N y (fun v2_17 h_17 => (M_Md_laysRow N h_17).bind (fun h19 => Md_resolves_L94 N (fun v2_24 h_24 => Md_resolves_L123 N N 0 h_24) N 0 h19)) N 0 h_12) n k x)
    (fun h_12 => Md_resolves_L59 N y (fun v2_17 h_17 => (M_Md_laysRow N h_17).bind (fun h19 => Md_resolves_L94 N (fun v2_24 h_24 => Md_resolves_L123 N N 0 h_24) N 0 h19)) N 0 h_12)
    (fun k x => (∀ c, c ≠ 92 → c ≠ 93 → x c = g c) ∧ (∀ d : Nat, d < k → x 92 d = -1 ∧ x 93 d = 0)) (yd b + l).toNat
    (fun n k x hk hx => by
      obtain ⟨k1, k2⟩ := hx
      refine ⟨hs (hs x 92 k (-1)) 93 k 0, ⟨fun c c1 c2 => by rw [hs_cell c2, hs_cell c1]; exact k1 c c1 c2, fun d hd => ?_⟩, ?_⟩
      · by_cases e : d = k
        · subst e; simp (disch := omega) only [leb_iff, ltb_iff, eqb_iff, pu_rmP, pu_dvP, pu_bs, pu_b0, pu_b1, pu_c0, pu_c1, pu_lt, pu_rdN, pu_wrN, hs_at, hs_cell, hs_slot, if_true, if_false, true_and, and_true, pu_rd, pu_wr, Int.reduceToNat, Int.toNat_natCast, decide_eq_true_eq, Int.add_zero, Bool.false_eq_true, if_pos, if_neg]
        · have := k2 d (by omega)
          simp (disch := omega) only [leb_iff, ltb_iff, eqb_iff, pu_rmP, pu_dvP, pu_bs, pu_b0, pu_b1, pu_c0, pu_c1, pu_lt, pu_rdN, pu_wrN, hs_at, hs_cell, hs_slot, if_true, if_false, true_and, and_true, pu_rd, pu_wr, Int.reduceToNat, Int.toNat_natCast, decide_eq_true_eq, Int.add_zero, Bool.false_eq_true, if_pos, if_neg, this]
      · (try dsimp only)
        rw [Md_resolves_L29, k1 83 (by omega) (by omega), g13]
        simp (disch := omega) only [leb_iff, ltb_iff, eqb_iff, pu_rmP, pu_dvP, pu_bs, pu_b0, pu_b1, pu_c0, pu_c1, pu_lt, pu_rdN, pu_wrN, hs_at, hs_cell, hs_slot, if_true, if_false, true_and, and_true, pu_rd, pu_wr, Int.reduceToNat, Int.toNat_natCast, decide_eq_true_eq, Int.add_zero, Bool.false_eq_true, if_pos, if_neg])
    (fun n x hx => by
      (try dsimp only)
      rw [Md_resolves_L29, hx.1 83 (by omega) (by omega), g13]
      simp (disch := omega) only [leb_iff, ltb_iff, eqb_iff, pu_rmP, pu_dvP, pu_bs, pu_b0, pu_b1, pu_c0, pu_c1, pu_lt, pu_rdN, pu_wrN, hs_at, hs_cell, hs_slot, if_true, if_false, true_and, and_true, pu_rd, pu_wr, Int.reduceToNat, Int.toNat_natCast, decide_eq_true_eq, Int.add_zero, Bool.false_eq_true, if_pos, if_neg]) N 0 g (by omega) (by omega) ⟨fun _ _ _ => rfl, fun d hd => by omega⟩
  rw [Int.natCast_zero] at ea
  rw [ea]
  obtain ⟨c, ⟨c1, c2⟩, ec⟩ := lp_cont (fun n k x => Md_resolves_L59 N y (fun v2_17 h_17 => (M_Md_laysRow N h_17).bind (fun h19 => Md_resolves_L94 N (fun v2_24 h_24 => Md_resolves_L123 N N 0 h_24) N 0 h19)) n k x)
    (fun h_17 => (M_Md_laysRow N h_17).bind (fun h19 => Md_resolves_L94 N (fun v2_24 h_24 => Md_resolves_L123 N N 0 h_24) N 0 h19))
    (fun k x => (∀ c, c ≠ 89 → x c = a c) ∧ (∀ f : Nat, f < k → x 89 f = dyf b l p f)) (b 42).toNat
    (fun n k x hk hx => by
      obtain ⟨k1, k2⟩ := hx
      have x84 : x 84 = b := by rw [k1 84 (by omega), a1 84 (by omega) (by omega), g84 84 (by omega), hb]
      have htd := m_toldDay (h := x) (N := N) (by omega) ok x84 h0 h1 (by rw [k1 83 (by omega), a1 83 (by omega) (by omega), g13, hl]) (by rw [k1 83 (by omega), a1 83 (by omega) (by omega), g15, hp]) (f := k) (by omega)
      rw [hl, hp] at htd
      refine ⟨hs x 89 k (dyf b l p k), ⟨fun c hc => by rw [hs_cell hc]; exact k1 c hc, fun f hf => ?_⟩, ?_⟩
      · by_cases e : f = k
        · subst e; rw [hs_at]
        · rw [hs_slot e]; exact k2 f (by omega)
      · (try dsimp only)
        rw [Md_resolves_L59, pu_rd (by omega) (by omega), Option.bind_some, show Int.toNat 42 = 42 from rfl, x84]
        simp (disch := omega) only [leb_iff, ltb_iff, eqb_iff, pu_rmP, pu_dvP, pu_bs, pu_b0, pu_b1, pu_c0, pu_c1, pu_lt, pu_rdN, pu_wrN, hs_at, hs_cell, hs_slot, if_true, if_false, true_and, and_true, pu_rd, pu_wr, Int.reduceToNat, Int.toNat_natCast, decide_eq_true_eq, Int.add_zero, Bool.false_eq_true, if_pos, if_neg, htd])
    (fun n x hx => by
      have x84 : x 84 = b := by rw [hx.1 84 (by omega), a1 84 (by omega) (by omega), g84 84 (by omega), hb]
      (try dsimp only)
      rw [Md_resolves_L59, pu_rd (by omega) (by omega), Option.bind_some, show Int.toNat 42 = 42 from rfl, x84]
      simp (disch := omega) only [leb_iff, ltb_iff, eqb_iff, pu_rmP, pu_dvP, pu_bs, pu_b0, pu_b1, pu_c0, pu_c1, pu_lt, pu_rdN, pu_wrN, hs_at, hs_cell, hs_slot, if_true, if_false, true_and, and_true, pu_rd, pu_wr, Int.reduceToNat, Int.toNat_natCast, decide_eq_true_eq, Int.add_zero, Bool.false_eq_true, if_pos, if_neg]) N 0 a (by omega) (by omega) ⟨fun _ _ => rfl, fun d hd => by omega⟩
  rw [Int.natCast_zero] at ec
  rw [ec]
  have c84 : c 84 = b := by rw [c1 84 (by omega), a1 84 (by omega) (by omega), g84 84 (by omega), hb]
  obtain ⟨r, er, r1, r2⟩ := m_laysRow (h := c) (N := N) (by omega) c84 hm.1 hm.2 ok.fea
  rw [er, Option.bind_some]
  have rg : ∀ x, x ≠ 89 → x ≠ 92 → x ≠ 93 → x ≠ 94 → r x = g x := fun x x1 x2 x3 x4 => by rw [r1 x x4, c1 x x1, a1 x x2 x3]
  have myr : MY b l p r := MY.mk (by rw [r1 84 (by omega), c84]) (by rw [rg 83 (by omega) (by omega) (by omega) (by omega), g13]) (by rw [rg 83 (by omega) (by omega) (by omega) (by omega), g15]) (by rw [rg 83 (by omega) (by omega) (by omega) (by omega), g14]; exact hw) (by rw [rg 83 (by omega) (by omega) (by omega) (by omega), g14, ← hp]; exact psc_mod y) (fun f hf => by rw [r1 89 (by omega)]; exact c2 f (by omega))
  have hrk : ∀ k : Nat, (k : Int) < b 42 → r 94 k = rk b k := fun k hk => (RowOk_rk ok r2 hk).1
  have fr0 : Fq h r := ⟨fun x x1 x2 => by rw [rg x (by omega) (by omega) (by omega) (by omega), g84 x x1], fun j j1 _ => by rw [rg 83 (by omega) (by omega) (by omega) (by omega), gj j j1]⟩
  have r14 : r 83 14 = wdy b y := by rw [rg 83 (by omega) (by omega) (by omega) (by omega), g14]
  obtain ⟨k, ⟨k1, k2, k3⟩, ek⟩ := lp_cont (fun n k x => Md_resolves_L94 N (fun v2_24 h_24 => Md_resolves_L123 N N 0 h_24) n k x) (fun h_24 => Md_resolves_L123 N N 0 h_24)
    (fun k x => Fk r x ∧ MK b l p (kps b l p k) x ∧ (∀ j : Nat, j < k → x 90 (rk b j) = (kps b l p k).1 (rk b j) ∧ x 91 (rk b j) = (kps b l p k).2.1 (rk b j))) (b 42).toNat
    (fun n k x hk hx => by
      obtain ⟨k1, k2, k3⟩ := hx
      have hr := rk_spec ok (k := k) (by omega)
      obtain ⟨x', e1, e2, e3, v, w, e4, e5, e6, e7⟩ := m_keeps (h := x) (N := N) (by omega) ok yr (kps_th ok l p k (by omega)) k2 hr.1
      refine ⟨x', ⟨k1.trans e2, e3, fun j hj => ?_⟩, ?_⟩
      · rw [kps, e4, e5, e6, e7]
        by_cases e : rk b j = rk b k
        · rw [e, pu_up_at, pu_up_at, pu_up_at, pu_up_at]; exact ⟨rfl, rfl⟩
        · rw [pu_up_ne e, pu_up_ne e, pu_up_ne e, pu_up_ne e]
          exact k3 j (by
            have : j ≠ k := fun z => e (by rw [z])
            omega)
      · (try dsimp only)
        rw [Md_resolves_L94, pu_rd (by omega) (by omega), Option.bind_some, show Int.toNat 42 = 42 from rfl, k2.my.bk, pu_rdN (by omega), Option.bind_some, k1.1 94 (by omega) (by omega) (by omega) (by omega), hrk k (by omega), e1]
        simp (disch := omega) only [leb_iff, ltb_iff, eqb_iff, pu_rmP, pu_dvP, pu_bs, pu_b0, pu_b1, pu_c0, pu_c1, pu_lt, pu_rdN, pu_wrN, hs_at, hs_cell, hs_slot, if_true, if_false, true_and, and_true, pu_rd, pu_wr, Int.reduceToNat, Int.toNat_natCast, decide_eq_true_eq, Int.add_zero, Bool.false_eq_true, if_pos, if_neg])
    (fun n x hx => by
      (try dsimp only)
      rw [Md_resolves_L94, pu_rd (by omega) (by omega), Option.bind_some, show Int.toNat 42 = 42 from rfl, hx.2.1.my.bk]
      simp (disch := omega) only [leb_iff, ltb_iff, eqb_iff, pu_rmP, pu_dvP, pu_bs, pu_b0, pu_b1, pu_c0, pu_c1, pu_lt, pu_rdN, pu_wrN, hs_at, hs_cell, hs_slot, if_true, if_false, true_and, and_true, pu_rd, pu_wr, Int.reduceToNat, Int.toNat_natCast, decide_eq_true_eq, Int.add_zero, Bool.false_eq_true, if_pos, if_neg]) N 0 r (by omega) (by omega) ⟨⟨fun _ _ _ _ _ => rfl, fun _ _ _ _ => rfl⟩, MK.mk myr (fun d hd => by rw [r1 92 (by omega), c1 92 (by omega)]; exact (a2 d (by omega)).1), fun j hj => by omega⟩
  rw [Int.natCast_zero] at ek
  rw [ek]
  have jz : ∀ d : Int, jcf b l p (kps b l p (b 42).toNat) d = 0 := fun d => cnt_none (fun f hf => by
    obtain ⟨j, hj, e⟩ := rk_onto ok (f := f) (by omega)
    have := kps_no2 b l p (b 42).toNat j (by omega)
    rw [e] at this
    simp [this])
  have ms0 : MS b l p (lws b l p 0) k := MS.mk k2.my k2.th (fun f hf => by
    obtain ⟨j, hj, e⟩ := rk_onto ok hf
    rw [← e]; exact k3 j (by omega)) (fun d hd => by
    rw [lws, jz d, k1.1 93 (by omega) (by omega) (by omega) (by omega), r1 93 (by omega), c1 93 (by omega)]
    exact ⟨(a2 d (by omega)).2, by omega⟩)
  have := lp_inv (fun n k x => Md_resolves_L123 N n k x) (fun j x => Fm k x ∧ MS b l p (lws b l p j) x) (fun h' => Fm k h' ∧ MS b l p (res b l p) h') (b 42).toNat
    (fun n j x hj hx => by
      obtain ⟨x1, x2⟩ := hx
      have hr := rk_spec ok (k := j) (by omega)
      have hro := (x2.ro (rk b j) hr.1).2
      have hfa := lws_fa ok l p hr.1 j
      unfold FaOk at hfa
      have x94 : x 94 j = rk b j := by rw [x1.1 94 (by omega) (by omega) (by omega) (by omega) (by omega), k1.1 94 (by omega) (by omega) (by omega) (by omega)]; exact hrk j (by omega)
      by_cases c : (lws b l p j).2.1 (rk b j) = -1
      · obtain ⟨x', e1, e2, e3⟩ := m_yieldsBy (h := x) (N := N) (by omega) ok yr (lws_th ok l p j (by omega)) x2 hr.1 c (hfa.1 c)
        refine Or.inl ⟨x', ⟨x1.trans e2, e3⟩, ?_⟩
        (try dsimp only)
        rw [Md_resolves_L123, pu_rd (by omega) (by omega), Option.bind_some, show Int.toNat 42 = 42 from rfl, x2.my.bk]
        simp (disch := omega) only [leb_iff, ltb_iff, eqb_iff, pu_rmP, pu_dvP, pu_bs, pu_b0, pu_b1, pu_c0, pu_c1, pu_lt, pu_rdN, pu_wrN, hs_at, hs_cell, hs_slot, if_true, if_false, true_and, and_true, pu_rd, pu_wr, Int.reduceToNat, Int.toNat_natCast, decide_eq_true_eq, Int.add_zero, Bool.false_eq_true, if_pos, if_neg, x94, hro, e1]
      · refine Or.inl ⟨x, ⟨x1, ?_⟩, ?_⟩
        · rw [lws]; unfold lw; rw [if_pos c]; exact x2
        · (try dsimp only)
          rw [Md_resolves_L123, pu_rd (by omega) (by omega), Option.bind_some, show Int.toNat 42 = 42 from rfl, x2.my.bk]
          simp (disch := omega) only [leb_iff, ltb_iff, eqb_iff, pu_rmP, pu_dvP, pu_bs, pu_b0, pu_b1, pu_c0, pu_c1, pu_lt, pu_rdN, pu_wrN, hs_at, hs_cell, hs_slot, if_true, if_false, true_and, and_true, pu_rd, pu_wr, Int.reduceToNat, Int.toNat_natCast, decide_eq_true_eq, Int.add_zero, Bool.false_eq_true, if_pos, if_neg, x94, hro])
    (fun n x hx => by
      refine ⟨x, ?_, hx⟩
      (try dsimp only)
      rw [Md_resolves_L123, pu_rd (by omega) (by omega), Option.bind_some, show Int.toNat 42 = 42 from rfl, hx.2.my.bk]
      simp (disch := omega) only [leb_iff, ltb_iff, eqb_iff, pu_rmP, pu_dvP, pu_bs, pu_b0, pu_b1, pu_c0, pu_c1, pu_lt, pu_rdN, pu_wrN, hs_at, hs_cell, hs_slot, if_true, if_false, true_and, and_true, pu_rd, pu_wr, Int.reduceToNat, Int.toNat_natCast, decide_eq_true_eq, Int.add_zero, Bool.false_eq_true, if_pos, if_neg]) N 0 k (by omega) (by omega) ⟨Fm.refl k, ms0⟩
  obtain ⟨h', e, f1, f2⟩ := this
  refine ⟨h', e, fr0.trans (k1.fq.trans f1.fq), ?_, f2⟩
  rw [f1.2 14 (by omega) (by omega) (by omega), k1.2 14 (by omega) (by omega) (by omega), r14]
end Mr

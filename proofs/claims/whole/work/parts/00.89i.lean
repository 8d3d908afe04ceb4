def FrR (h h' : Hp) : Prop := (∀ c, c ≠ 83 → c ≠ 88 → h' c = h c) ∧ (∀ j, j ≠ 9 → j ≠ 10 → j ≠ 12 → h' 83 j = h 83 j)
def PMon (b : Nat → Int) (h : Hp) : Prop := (3 ≤ b 0 ∧ b 0 ≤ 9 ∧ h 4 1 = b 0) ∧ (1 ≤ b 1 ∧ b 1 ≤ 8 ∧ h 4 2 = b 1) ∧ (h 4 3 = yd b) ∧ (∀ i : Nat, (i : Int) < b 1 → (5 ≤ b (2 + i) ∧ b (2 + i) ≤ 31) ∧ h 5 i = b (2 + i))
theorem PMon.week {b : Nat → Int} {h : Hp} (q_ : PMon b h) : 3 ≤ b 0 ∧ b 0 ≤ 9 ∧ h 4 1 = b 0 := q_.1
theorem PMon.mon {b : Nat → Int} {h : Hp} (q_ : PMon b h) : 1 ≤ b 1 ∧ b 1 ≤ 8 ∧ h 4 2 = b 1 := q_.2.1
theorem PMon.yday {b : Nat → Int} {h : Hp} (q_ : PMon b h) : h 4 3 = yd b := q_.2.2.1
theorem PMon.days {b : Nat → Int} {h : Hp} (q_ : PMon b h) : ∀ i : Nat, (i : Int) < b 1 → (5 ≤ b (2 + i) ∧ b (2 + i) ≤ 31) ∧ h 5 i = b (2 + i) := q_.2.2.2
theorem PMon.mk {b : Nat → Int} {h : Hp} (week_ : 3 ≤ b 0 ∧ b 0 ≤ 9 ∧ h 4 1 = b 0) (mon_ : 1 ≤ b 1 ∧ b 1 ≤ 8 ∧ h 4 2 = b 1) (yday_ : h 4 3 = yd b) (days_ : ∀ i : Nat, (i : Int) < b 1 → (5 ≤ b (2 + i) ∧ b (2 + i) ≤ 31) ∧ h 5 i = b (2 + i)) : PMon b h := ⟨week_, mon_, yday_, days_⟩
def PMoo (b : Nat → Int) (h : Hp) : Prop := ((b 10 = 0 ∨ (2 ≤ b 10 ∧ b 10 ≤ 9)) ∧ h 4 4 = b 10) ∧ (0 ≤ b 11 ∧ b 11 < b 1 ∧ h 4 5 = b 11) ∧ (1 ≤ b 12 ∧ b 12 ≤ 19 ∧ h 4 6 = b 12) ∧ (0 ≤ b 13 ∧ b 13 ≤ 99 ∧ h 4 7 = b 13) ∧ (0 ≤ b 14 ∧ b 14 ≤ 30 ∧ h 4 8 = b 14) ∧ (1 ≤ b 15 ∧ b 15 ≤ 30 ∧ h 4 9 = b 15) ∧ (b 13 + b 15 + b 0 ≤ yd b)
theorem PMoo.leap {b : Nat → Int} {h : Hp} (q_ : PMoo b h) : (b 10 = 0 ∨ (2 ≤ b 10 ∧ b 10 ≤ 9)) ∧ h 4 4 = b 10 := q_.1
theorem PMoo.lmon {b : Nat → Int} {h : Hp} (q_ : PMoo b h) : 0 ≤ b 11 ∧ b 11 < b 1 ∧ h 4 5 = b 11 := q_.2.1
theorem PMoo.cyc {b : Nat → Int} {h : Hp} (q_ : PMoo b h) : 1 ≤ b 12 ∧ b 12 ≤ 19 ∧ h 4 6 = b 12 := q_.2.2.1
theorem PMoo.fst {b : Nat → Int} {h : Hp} (q_ : PMoo b h) : 0 ≤ b 13 ∧ b 13 ≤ 99 ∧ h 4 7 = b 13 := q_.2.2.2.1
theorem PMoo.stp {b : Nat → Int} {h : Hp} (q_ : PMoo b h) : 0 ≤ b 14 ∧ b 14 ≤ 30 ∧ h 4 8 = b 14 := q_.2.2.2.2.1
theorem PMoo.spn {b : Nat → Int} {h : Hp} (q_ : PMoo b h) : 1 ≤ b 15 ∧ b 15 ≤ 30 ∧ h 4 9 = b 15 := q_.2.2.2.2.2.1
theorem PMoo.fit {b : Nat → Int} {h : Hp} (q_ : PMoo b h) : b 13 + b 15 + b 0 ≤ yd b := q_.2.2.2.2.2.2
theorem PMoo.mk {b : Nat → Int} {h : Hp} (leap_ : (b 10 = 0 ∨ (2 ≤ b 10 ∧ b 10 ≤ 9)) ∧ h 4 4 = b 10) (lmon_ : 0 ≤ b 11 ∧ b 11 < b 1 ∧ h 4 5 = b 11) (cyc_ : 1 ≤ b 12 ∧ b 12 ≤ 19 ∧ h 4 6 = b 12) (fst_ : 0 ≤ b 13 ∧ b 13 ≤ 99 ∧ h 4 7 = b 13) (stp_ : 0 ≤ b 14 ∧ b 14 ≤ 30 ∧ h 4 8 = b 14) (spn_ : 1 ≤ b 15 ∧ b 15 ≤ 30 ∧ h 4 9 = b 15) (fit_ : b 13 + b 15 + b 0 ≤ yd b) : PMoo b h := ⟨leap_, lmon_, cyc_, fst_, stp_, spn_, fit_⟩
def PSet (b : Nat → Int) (h : Hp) (w : Int) : Prop := (1 ≤ b 16 ∧ b 16 ≤ 60 ∧ h 4 10 = b 16) ∧ (0 ≤ b 17 ∧ b 17 < 512 ∧ h 4 13 = b 17) ∧ (1 ≤ b 18 ∧ b 18 ≤ 9 ∧ h 4 12 = b 18) ∧ (0 ≤ b 19 ∧ b 19 ≤ 9 ∧ h 4 11 = b 19) ∧ (w = h 3 5 + 2 * h 3 6 + 4 * h 3 7)
theorem PSet.rch {b : Nat → Int} {h : Hp} {w : Int} (q_ : PSet b h w) : 1 ≤ b 16 ∧ b 16 ≤ 60 ∧ h 4 10 = b 16 := q_.1
theorem PSet.fas {b : Nat → Int} {h : Hp} {w : Int} (q_ : PSet b h w) : 0 ≤ b 17 ∧ b 17 < 512 ∧ h 4 13 = b 17 := q_.2.1
theorem PSet.lft {b : Nat → Int} {h : Hp} {w : Int} (q_ : PSet b h w) : 1 ≤ b 18 ∧ b 18 ≤ 9 ∧ h 4 12 = b 18 := q_.2.2.1
theorem PSet.rst {b : Nat → Int} {h : Hp} {w : Int} (q_ : PSet b h w) : 0 ≤ b 19 ∧ b 19 ≤ 9 ∧ h 4 11 = b 19 := q_.2.2.2.1
theorem PSet.tld {b : Nat → Int} {h : Hp} {w : Int} (q_ : PSet b h w) : w = h 3 5 + 2 * h 3 6 + 4 * h 3 7 := q_.2.2.2.2
theorem PSet.mk {b : Nat → Int} {h : Hp} {w : Int} (rch_ : 1 ≤ b 16 ∧ b 16 ≤ 60 ∧ h 4 10 = b 16) (fas_ : 0 ≤ b 17 ∧ b 17 < 512 ∧ h 4 13 = b 17) (lft_ : 1 ≤ b 18 ∧ b 18 ≤ 9 ∧ h 4 12 = b 18) (rst_ : 0 ≤ b 19 ∧ b 19 ≤ 9 ∧ h 4 11 = b 19) (tld_ : w = h 3 5 + 2 * h 3 6 + 4 * h 3 7) : PSet b h w := ⟨rch_, fas_, lft_, rst_, tld_⟩
def PSea (b : Nat → Int) (h : Hp) : Prop := (0 ≤ b 20 ∧ b 20 ≤ 4 ∧ h 6 0 = b 20) ∧ (∀ k : Nat, (k : Int) < b 20 → (-99 ≤ b (21 + 3 * k) ∧ b (21 + 3 * k) ≤ b (22 + 3 * k) ∧ b (22 + 3 * k) ≤ 99 ∧ 0 ≤ b (23 + 3 * k) ∧ b (23 + 3 * k) ≤ 9) ∧ h 7 k = b (21 + 3 * k) ∧ h 8 k = b (22 + 3 * k) ∧ h 9 k = b (23 + 3 * k))
theorem PSea.nse {b : Nat → Int} {h : Hp} (q_ : PSea b h) : 0 ≤ b 20 ∧ b 20 ≤ 4 ∧ h 6 0 = b 20 := q_.1
theorem PSea.sea {b : Nat → Int} {h : Hp} (q_ : PSea b h) : ∀ k : Nat, (k : Int) < b 20 → (-99 ≤ b (21 + 3 * k) ∧ b (21 + 3 * k) ≤ b (22 + 3 * k) ∧ b (22 + 3 * k) ≤ 99 ∧ 0 ≤ b (23 + 3 * k) ∧ b (23 + 3 * k) ≤ 9) ∧ h 7 k = b (21 + 3 * k) ∧ h 8 k = b (22 + 3 * k) ∧ h 9 k = b (23 + 3 * k) := q_.2
theorem PSea.mk {b : Nat → Int} {h : Hp} (nse_ : 0 ≤ b 20 ∧ b 20 ≤ 4 ∧ h 6 0 = b 20) (sea_ : ∀ k : Nat, (k : Int) < b 20 → (-99 ≤ b (21 + 3 * k) ∧ b (21 + 3 * k) ≤ b (22 + 3 * k) ∧ b (22 + 3 * k) ≤ 99 ∧ 0 ≤ b (23 + 3 * k) ∧ b (23 + 3 * k) ≤ 9) ∧ h 7 k = b (21 + 3 * k) ∧ h 8 k = b (22 + 3 * k) ∧ h 9 k = b (23 + 3 * k)) : PSea b h := ⟨nse_, sea_⟩
def PClo (b : Nat → Int) (h : Hp) : Prop := (0 ≤ b 33 ∧ b 33 ≤ 4 ∧ h 10 0 = b 33) ∧ (∀ k : Nat, (k : Int) < b 33 → (-99 ≤ b (34 + 2 * k) ∧ b (34 + 2 * k) ≤ b (35 + 2 * k) ∧ b (35 + 2 * k) ≤ 99) ∧ h 11 k = b (34 + 2 * k) ∧ h 12 k = b (35 + 2 * k))
theorem PClo.ncl {b : Nat → Int} {h : Hp} (q_ : PClo b h) : 0 ≤ b 33 ∧ b 33 ≤ 4 ∧ h 10 0 = b 33 := q_.1
theorem PClo.clo {b : Nat → Int} {h : Hp} (q_ : PClo b h) : ∀ k : Nat, (k : Int) < b 33 → (-99 ≤ b (34 + 2 * k) ∧ b (34 + 2 * k) ≤ b (35 + 2 * k) ∧ b (35 + 2 * k) ≤ 99) ∧ h 11 k = b (34 + 2 * k) ∧ h 12 k = b (35 + 2 * k) := q_.2
theorem PClo.mk {b : Nat → Int} {h : Hp} (ncl_ : 0 ≤ b 33 ∧ b 33 ≤ 4 ∧ h 10 0 = b 33) (clo_ : ∀ k : Nat, (k : Int) < b 33 → (-99 ≤ b (34 + 2 * k) ∧ b (34 + 2 * k) ≤ b (35 + 2 * k) ∧ b (35 + 2 * k) ≤ 99) ∧ h 11 k = b (34 + 2 * k) ∧ h 12 k = b (35 + 2 * k)) : PClo b h := ⟨ncl_, clo_⟩
def PFea (b : Nat → Int) (h : Hp) : Prop := (0 ≤ b 42 ∧ b 42 ≤ 12 ∧ h 14 0 = b 42) ∧ (∀ f : Nat, (f : Int) < b 42 → okF b f ∧ h 15 f = fq b f 0 ∧ h 16 f = fq b f 2 ∧ h 17 f = fq b f 3 ∧ h 18 f = fq b f 4 ∧ h 19 f = fq b f 5 ∧ h 20 f = fq b f 6) ∧ (∀ k : Nat, 43 + 7 * b 42 ≤ (k : Int) → k < 127 → b k = 0)
theorem PFea.many {b : Nat → Int} {h : Hp} (q_ : PFea b h) : 0 ≤ b 42 ∧ b 42 ≤ 12 ∧ h 14 0 = b 42 := q_.1
theorem PFea.fea {b : Nat → Int} {h : Hp} (q_ : PFea b h) : ∀ f : Nat, (f : Int) < b 42 → okF b f ∧ h 15 f = fq b f 0 ∧ h 16 f = fq b f 2 ∧ h 17 f = fq b f 3 ∧ h 18 f = fq b f 4 ∧ h 19 f = fq b f 5 ∧ h 20 f = fq b f 6 := q_.2.1
theorem PFea.rest {b : Nat → Int} {h : Hp} (q_ : PFea b h) : ∀ k : Nat, 43 + 7 * b 42 ≤ (k : Int) → k < 127 → b k = 0 := q_.2.2
theorem PFea.mk {b : Nat → Int} {h : Hp} (many_ : 0 ≤ b 42 ∧ b 42 ≤ 12 ∧ h 14 0 = b 42) (fea_ : ∀ f : Nat, (f : Int) < b 42 → okF b f ∧ h 15 f = fq b f 0 ∧ h 16 f = fq b f 2 ∧ h 17 f = fq b f 3 ∧ h 18 f = fq b f 4 ∧ h 19 f = fq b f 5 ∧ h 20 f = fq b f 6) (rest_ : ∀ k : Nat, 43 + 7 * b 42 ≤ (k : Int) → k < 127 → b k = 0) : PFea b h := ⟨many_, fea_, rest_⟩
def Kp (b : Nat → Int) (h : Hp) (w : Int) : Prop := (PMon b h) ∧ (PMoo b h) ∧ (PSet b h w) ∧ (PSea b h) ∧ (PClo b h) ∧ (PFea b h)
theorem Kp.mo {b : Nat → Int} {h : Hp} {w : Int} (q_ : Kp b h w) : PMon b h := q_.1
theorem Kp.ca {b : Nat → Int} {h : Hp} {w : Int} (q_ : Kp b h w) : PMoo b h := q_.2.1
theorem Kp.st {b : Nat → Int} {h : Hp} {w : Int} (q_ : Kp b h w) : PSet b h w := q_.2.2.1
theorem Kp.se {b : Nat → Int} {h : Hp} {w : Int} (q_ : Kp b h w) : PSea b h := q_.2.2.2.1
theorem Kp.cl {b : Nat → Int} {h : Hp} {w : Int} (q_ : Kp b h w) : PClo b h := q_.2.2.2.2.1
theorem Kp.fe {b : Nat → Int} {h : Hp} {w : Int} (q_ : Kp b h w) : PFea b h := q_.2.2.2.2.2
theorem Kp.mk {b : Nat → Int} {h : Hp} {w : Int} (mo_ : PMon b h) (ca_ : PMoo b h) (st_ : PSet b h w) (se_ : PSea b h) (cl_ : PClo b h) (fe_ : PFea b h) : Kp b h w := ⟨mo_, ca_, st_, se_, cl_, fe_⟩
section Pf
variable {b b' : Nat → Int} {h h' : Hp} {w w' : Int}
theorem msum_cgp {m : Nat} (eb : ∀ k, k < 2 + m → b' k = b k) : ∀ n, n ≤ m → msum b' n = msum b n := by
  intro n
  induction n with
  | zero => intro _; rfl
  | succ n ih => intro hn; rw [msum, msum, ih (by omega), eb (2 + n) (by omega)]
theorem PMon_fr (P : PMon b h) (eb : ∀ k, k < 10 → b' k = b k) (e4 : ∀ j, 1 ≤ j → j ≤ 3 → h' 4 j = h 4 j) (e5 : h' 5 = h 5) : PMon b' h' := by
  have m := P.mon
  refine PMon.mk ?_ ?_ ?_ ?_
  · rw [eb 0 (by omega), e4 1 (by omega) (by omega)]; exact P.week
  · rw [eb 1 (by omega), e4 2 (by omega) (by omega)]; exact P.mon
  · rw [e4 3 (by omega) (by omega), P.yday]
    unfold yd
    rw [eb 1 (by omega), msum_cgp (m := 8) eb _ (by omega)]
  · intro i hi
    rw [eb 1 (by omega)] at hi
    rw [eb (2 + i) (by omega), e5]; exact P.days i hi
theorem yd_cgp (hm : b 1 ≤ 8) (eb : ∀ k, k < 10 → b' k = b k) : yd b' = yd b := by
  unfold yd
  rw [eb 1 (by omega), msum_cgp (m := 8) eb _ (by omega)]
theorem PMoo_fr (hm : b 1 ≤ 8) (P : PMoo b h) (eb : ∀ k, k < 16 → b' k = b k) (e4 : ∀ j, 4 ≤ j → j ≤ 9 → h' 4 j = h 4 j) : PMoo b' h' := by
  refine PMoo.mk ?_ ?_ ?_ ?_ ?_ ?_ ?_
  · rw [eb 10 (by omega), e4 4 (by omega) (by omega)]; exact P.leap
  · rw [eb 11 (by omega), eb 1 (by omega), e4 5 (by omega) (by omega)]; exact P.lmon
  · rw [eb 12 (by omega), e4 6 (by omega) (by omega)]; exact P.cyc
  · rw [eb 13 (by omega), e4 7 (by omega) (by omega)]; exact P.fst
  · rw [eb 14 (by omega), e4 8 (by omega) (by omega)]; exact P.stp
  · rw [eb 15 (by omega), e4 9 (by omega) (by omega)]; exact P.spn
  · rw [eb 13 (by omega), eb 15 (by omega), eb 0 (by omega), yd_cgp hm (fun k hk => eb k (by omega))]; exact P.fit
theorem PSet_fr (P : PSet b h w) (eb : ∀ k, 16 ≤ k → k ≤ 19 → b' k = b k) (e4 : ∀ j, 10 ≤ j → j ≤ 13 → h' 4 j = h 4 j) (e3 : ∀ j, 5 ≤ j → j ≤ 7 → h' 3 j = h 3 j) (ew : w' = w) : PSet b' h' w' := by
  refine PSet.mk ?_ ?_ ?_ ?_ ?_
  · rw [eb 16 (by omega) (by omega), e4 10 (by omega) (by omega)]; exact P.rch
  · rw [eb 17 (by omega) (by omega), e4 13 (by omega) (by omega)]; exact P.fas
  · rw [eb 18 (by omega) (by omega), e4 12 (by omega) (by omega)]; exact P.lft
  · rw [eb 19 (by omega) (by omega), e4 11 (by omega) (by omega)]; exact P.rst
  · rw [ew, e3 5 (by omega) (by omega), e3 6 (by omega) (by omega), e3 7 (by omega) (by omega)]; exact P.tld
theorem PSea_fr (P : PSea b h) (eb : ∀ k, 20 ≤ k → k ≤ 32 → b' k = b k) (e : ∀ c, 6 ≤ c → c ≤ 9 → h' c = h c) : PSea b' h' := by
  have n := P.nse
  refine PSea.mk ?_ ?_
  · rw [eb 20 (by omega) (by omega), e 6 (by omega) (by omega)]; exact n
  · intro k hk
    rw [eb 20 (by omega) (by omega)] at hk
    rw [eb (21 + 3 * k) (by omega) (by omega), eb (22 + 3 * k) (by omega) (by omega), eb (23 + 3 * k) (by omega) (by omega), e 7 (by omega) (by omega), e 8 (by omega) (by omega), e 9 (by omega) (by omega)]
    exact P.sea k hk
theorem PClo_fr (P : PClo b h) (eb : ∀ k, 33 ≤ k → k ≤ 41 → b' k = b k) (e : ∀ c, 10 ≤ c → c ≤ 13 → h' c = h c) : PClo b' h' := by
  have n := P.ncl
  refine PClo.mk ?_ ?_
  · rw [eb 33 (by omega) (by omega), e 10 (by omega) (by omega)]; exact n
  · intro k hk
    rw [eb 33 (by omega) (by omega)] at hk
    rw [eb (34 + 2 * k) (by omega) (by omega), eb (35 + 2 * k) (by omega) (by omega), e 11 (by omega) (by omega), e 12 (by omega) (by omega)]
    exact P.clo k hk
theorem okF_cgp {f : Nat} (hm : b 1 ≤ 8) (ec : ∀ k, k < 10 → b' k = b k) (eb : ∀ u, u < 7 → b' (43 + 7 * f + u) = b (43 + 7 * f + u)) (o : okF b f) : okF b' f := by
  have q : ∀ u, u < 7 → fq b' f u = fq b f u := fun u hu => by unfold fq; exact eb u hu
  unfold okF at *
  rw [q 0 (by omega), q 1 (by omega), q 2 (by omega), q 3 (by omega), q 4 (by omega), q 5 (by omega), q 6 (by omega), ec 1 (by omega)]
  obtain ⟨o1, o2, o3⟩ := o
  refine ⟨o1, ?_, o3⟩
  rcases o2 with z | ⟨z1, z2, z3, z4, z5⟩
  · exact Or.inl z
  · refine Or.inr ⟨z1, z2, z3, z4, ?_⟩
    rw [ec (2 + (fq b f 2).toNat) (by omega)]; exact z5
theorem PFea_fr (hm : b 1 ≤ 8) (P : PFea b h) (ec : ∀ k, k < 10 → b' k = b k) (eb : ∀ k, 42 ≤ k → k < 127 → b' k = b k) (e : ∀ c, 14 ≤ c → c ≤ 20 → h' c = h c) : PFea b' h' := by
  have n := P.many
  refine PFea.mk ?_ ?_ ?_
  · rw [eb 42 (by omega) (by omega), e 14 (by omega) (by omega)]; exact n
  · intro f hf
    rw [eb 42 (by omega) (by omega)] at hf
    have k := P.fea f hf
    have q : ∀ u, u < 7 → b' (43 + 7 * f + u) = b (43 + 7 * f + u) := fun u hu => eb _ (by omega) (by omega)
    have q' : ∀ u, u < 7 → fq b' f u = fq b f u := fun u hu => by unfold fq; exact q u hu
    rw [q' 0 (by omega), q' 2 (by omega), q' 3 (by omega), q' 4 (by omega), q' 5 (by omega), q' 6 (by omega), e 15 (by omega) (by omega), e 16 (by omega) (by omega), e 17 (by omega) (by omega), e 18 (by omega) (by omega), e 19 (by omega) (by omega), e 20 (by omega) (by omega)]
    exact ⟨okF_cgp hm ec q k.1, k.2⟩
  · rw [eb 42 (by omega) (by omega)]
    intro k h1 h2
    rw [eb k (by omega) h2]; exact P.rest k h1 h2
end Pf
section Lj
variable {t : Nat → Int} {E : Nat} {hC hM C M : Hp} {N : Nat}
theorem Kp_fr {C' M' : Hp} (K : Kp (M 88) C (M 83 12)) (f : FrC C C') (g : FrM M M') : Kp (M' 88) C' (M' 83 12) := by
  have m := K.mo.mon
  have e88 : M' 88 = M 88 := g.1 88 (by omega)
  have e12 : M' 83 12 = M 83 12 := g.2 12 (by omega) (by omega)
  have q : ∀ c, c ≠ 3 → C' c = C c := f.1
  rw [e88, e12]
  refine Kp.mk (PMon_fr K.mo (fun _ _ => rfl) (fun j _ _ => by rw [q 4 (by omega)]) (q 5 (by omega))) (PMoo_fr (by omega) K.ca (fun _ _ => rfl) (fun j _ _ => by rw [q 4 (by omega)])) (PSet_fr K.st (fun _ _ _ => rfl) (fun j _ _ => by rw [q 4 (by omega)]) (fun j _ _ => f.2 j (by omega) (by omega) (by omega)) rfl) (PSea_fr K.se (fun _ _ _ => rfl) (fun c _ _ => q c (by omega))) (PClo_fr K.cl (fun _ _ _ => rfl) (fun c _ _ => q c (by omega))) (PFea_fr (by omega) K.fe (fun _ _ => rfl) (fun _ _ _ => rfl) (fun c _ _ => q c (by omega)))
theorem FrR.trans {h h' h'' : Hp} (a : FrR h h') (c : FrR h' h'') : FrR h h'' := ⟨fun x h1 h2 => by rw [c.1 x h1 h2, a.1 x h1 h2], fun j j1 j2 j3 => by rw [c.2 j j1 j2 j3, a.2 j j1 j2 j3]⟩
theorem FrM.r {h h' : Hp} (f : FrM h h') : FrR h h' := ⟨fun x h1 _ => f.1 x h1, fun j j1 j2 _ => f.2 j j1 j2⟩
theorem FrR.rf {h : Hp} : FrR h h := ⟨fun _ _ _ => rfl, fun _ _ _ _ => rfl⟩
theorem FrR_w88 {h : Hp} {k : Nat} {v : Int} : FrR h (hs h 88 k v) := ⟨fun x _ h2 => hs_cell h2, fun j _ _ _ => by rw [hs_cell (by omega)]⟩
theorem FrM_9 {h : Hp} {v : Int} : FrM h (hs h 83 9 v) := ⟨fun x hx => hs_cell hx, fun j j1 _ => hs_slot j1⟩
theorem FrM_10 {h : Hp} {v : Int} : FrM h (hs h 83 10 v) := ⟨fun x hx => hs_cell hx, fun j _ j2 => hs_slot j2⟩
theorem wr88 {h : Hp} {i v : Int} {n : Nat} (e : i = (n : Int)) (hn : n < 127) : wrA h 88 127 i v = some (hs h 88 n v) := by
  subst e; exact pu_wrN hn
theorem rd88 {h : Hp} {i : Int} {n : Nat} (e : i = (n : Int)) (hn : n < 127) : rdA h 88 127 i = some (h 88 n) := by
  subst e; exact pu_rdN hn
theorem Ms_w88 {k : Nat} {v : Int} (P : Ms t E M) : Ms t E (hs M 88 k v) := Ms.mk (TM_fr P.tm (by rw [hs_cell (by omega)]) (hs_cell (by omega))) (by rw [hs_cell (by omega)]; exact P.pl) (by rw [hs_cell (by omega)]; exact P.wr)
theorem Ms_12 {v : Int} (P : Ms t E M) : Ms t E (hs M 83 12 v) := Ms.mk (TM_fr P.tm (hs_slot (by omega)) (hs_cell (by omega))) (by rw [hs_slot (by omega)]; exact P.pl) (by rw [hs_slot (by omega)]; exact P.wr)
theorem Ms_10 {v : Int} (P : Ms t E M) (hv : -1 ≤ v ∧ v ≤ 400) : Ms t E (hs M 83 10 v) := Ms.mk (TM_fr P.tm (hs_slot (by omega)) (hs_cell (by omega))) (by rw [hs_slot (by omega)]; exact P.pl) (by rw [hs_at]; exact hv)
theorem Ms_9 {v : Int} (P : Ms t E M) (hv : 0 ≤ v ∧ v ≤ (E : Int)) : Ms t E (hs M 83 9 v) := Ms.mk (TM_9 P.tm) (by rw [hs_at]; exact hv) (by rw [hs_slot (by omega)]; exact P.wr)
theorem Ps.wC {c k : Nat} {v : Int} (P : Ps t E C M) (hc : 4 ≤ c) : Ps t E (hs C c k v) M := Ps.mk (Cs_w P.c hc) P.m (by rw [hs_cell (by omega)]; exact P.w) (by rw [hs_cell (by omega)]; exact P.s)
theorem Ps.wM {k : Nat} {v : Int} (P : Ps t E C M) : Ps t E C (hs M 88 k v) := Ps.mk P.c (Ms_w88 P.m) (by rw [hs_cell (by omega)]; exact P.w) (by rw [hs_cell (by omega)]; exact P.s)
theorem Ps.wM12 {v : Int} (P : Ps t E C M) : Ps t E C (hs M 83 12 v) := Ps.mk P.c (Ms_12 P.m) (by rw [hs_slot (by omega)]; exact P.w) (by rw [hs_slot (by omega)]; exact P.s)
theorem Ps.wC3 {k : Nat} {v : Int} (P : Ps t E C M) (hk : 5 ≤ k) : Ps t E (hs C 3 k v) M := Ps.mk (Cs_w3 P.c (by omega)) P.m (by rw [hs_slot (by omega)]; exact P.w) (by rw [hs_slot (by omega), hs_slot (by omega)]; exact P.s)
def Bd (t : Nat → Int) (E : Nat) (h : Hp) (y : Option Hp) : Prop := ∃ h', y = some h' ∧ Ms t E h' ∧ h' 83 10 = h 83 10 ∧ FrR h h'
theorem Bd_ok (P : Ms t E M) : Bd t E M (some M) := ⟨M, rfl, P, rfl, FrR.rf⟩
theorem Bd_tr {h h1 : Hp} {y : Option Hp} (e : h1 83 10 = h 83 10) (f : FrR h h1) (s : Bd t E h1 y) : Bd t E h y := by
  obtain ⟨h', e', p, w, f'⟩ := s
  exact ⟨h', e', p, by rw [w, e], f.trans f'⟩
theorem Bd_number (P : Ms t E M) (w : M 83 10 ≠ -1) {lo hi : Int} {K : Int × Hp → Option Hp} (k : Bd t E M (K (0, M))) : Bd t E M ((M_Md_number N M lo hi).bind K) := by
  have wm := P.wr
  have e : M_Md_number N M lo hi = some (0, M) := by
    unfold M_Md_number
    rw [if_neg (by rw [eqb_iff (by omega) (by omega) (by omega) (by omega)]; exact w)]
  rw [e, pu_bs]; exact k
theorem sg_bad (P : Ms t E M) (w : M 83 10 ≠ -1) {lo : Int} : M_Md_signed N M lo = some (0, M) := by
  have wm := P.wr
  unfold M_Md_signed
  rw [if_neg (by rw [eqb_iff (by omega) (by omega) (by omega) (by omega)]; exact w)]
theorem Bd_signed (P : Ms t E M) (w : M 83 10 ≠ -1) {lo : Int} {K : Int × Hp → Option Hp} (k : Bd t E M (K (0, M))) : Bd t E M ((M_Md_signed N M lo).bind K) := by
  rw [sg_bad P w, pu_bs]; exact k
theorem Bd_expects (P : Ms t E M) (w : M 83 10 ≠ -1) {o : Nat} {K : Hp → Option Hp} (k : Bd t E M (K M)) : Bd t E M ((M_Md_expects N M o).bind K) := by
  rw [m_expects_no P.wr w, pu_bs]; exact k
theorem Bd_has (B : TB t E) (hN : 1000 < N) (P : Ms t E M) (w : M 83 10 ≠ -1) {o : Nat} (ho : o < 36) {K : Int × Hp → Option Hp} (k : ∀ M', Ms t E M' → M' 83 10 ≠ -1 → FrM M M' → Bd t E M' (K (0, M'))) : Bd t E M ((M_Md_has N M o).bind K) := by
  have pm := P.pl
  obtain ⟨q, eq⟩ : ∃ q : Nat, M 83 9 = (q : Int) := ⟨(M 83 9).toNat, by omega⟩
  have hb := sc_bd (f := bl t) (show q ≤ E by omega)
  obtain ⟨r, e, z⟩ := m_has (N := N) (w := o) B hN P.tm ho (show q ≤ E by omega) eq P.wr
  rcases z with ⟨z, _, _⟩ | ⟨_, z⟩
  · exact absurd z w
  · rw [e, pu_bs, z]
    have e10 : hs M 83 9 ((sc (bl t) E q : Nat) : Int) 83 10 = M 83 10 := hs_slot (by omega)
    exact Bd_tr e10 FrM_9.r (k _ (Ms_9 P (by omega)) (by rw [e10]; exact w) FrM_9)
theorem Bd_w88 {i v : Int} {n : Nat} (e : i = (n : Int)) (hn : n < 127) {K : Hp → Option Hp} (k : Bd t E (hs M 88 n v) (K (hs M 88 n v))) : Bd t E M ((wrA M 88 127 i v).bind K) := by
  rw [wr88 e hn, pu_bs]
  exact Bd_tr (by rw [hs_cell (by omega)]) FrR_w88 k
theorem Bd_r88 {i : Int} {n : Nat} (e : i = (n : Int)) (hn : n < 127) {K : Int → Option Hp} (k : Bd t E M (K (M 88 n))) : Bd t E M ((rdA M 88 127 i).bind K) := by
  rw [rd88 e hn, pu_bs]; exact k
theorem flt (P : Ms t E M) : (eqb (M 83 10) (-1) = true) = (M 83 10 = -1) := by
  have wm := P.wr
  exact eqb_iff (by omega) (by omega) (by omega) (by omega)
def S2 (x y : Option Hp) (Q : Hp → Hp → Prop) : Prop := ∃ C M, x = some C ∧ y = some M ∧ Q C M
def Q2 (t : Nat → Int) (E : Nat) (hM C M : Hp) : Prop := Ps t E C M ∧ (C 3 4 = -1 → Kp (M 88) C (M 83 12)) ∧ FrR hM M
theorem S2_bad {x y : Option Hp} (w : C 3 4 = M 83 10) (nw : C 3 4 ≠ -1) (a : Sf t E C x) (b : Bd t E M y) (f : FrR hM M) : S2 x y (Q2 t E hM) := by
  obtain ⟨C', e, p, d, w', _⟩ := a
  obtain ⟨M', e', p', v', f'⟩ := b
  exact ⟨C', M', e, e', Ps.mk p p' (by rw [w' nw, v', w]) (fun z => absurd ((w' nw).symm.trans z) nw), fun z => absurd ((w' nw).symm.trans z) nw, f.trans f'⟩
theorem S2_number (B : TB t E) (hN : 1000 < N) (P : Ps t E C M) {lo hi hi' : Int} (eh : hi = hi') (hl : -100000 ≤ lo ∧ lo ≤ 100000) (hh : -100000 ≤ hi ∧ hi ≤ 100000) {K K' : Int × Hp → Option Hp} {Q : Hp → Hp → Prop}
    (k : ∀ v vM C' M', Ps t E C' M' → FrC C C' → FrM M M' → (C' 3 4 = -1 → v = vM ∧ lo ≤ v ∧ v ≤ hi ∧ C 3 4 = -1) → (v = lo ∨ (lo ≤ v ∧ v ≤ hi)) → S2 (K (v, C')) (K' (vM, M')) Q) : S2 ((M_Reader_readNumber N C lo hi).bind K) ((M_Md_number N M lo hi').bind K') Q := by
  subst eh
  obtain ⟨v, vM, C', M', e, e', p, f, g, r, b, _, _⟩ := number2 (N := N) B hN P hl hh
  rw [e, e', pu_bs, pu_bs]
  exact k v vM C' M' p f g r b
theorem S2_signed (B : TB t E) (hN : 1000 < N) (P : Ps t E C M) {lo lo' : Int} (eh : C 3 4 = -1 → lo = lo') (hl : -99 ≤ lo ∧ lo ≤ 99) {K K' : Int × Hp → Option Hp} {Q : Hp → Hp → Prop}
    (k : ∀ v vM C' M', Ps t E C' M' → FrC C C' → FrM M M' → (C' 3 4 = -1 → v = vM ∧ C 3 4 = -1) → (lo ≤ v ∧ v ≤ 99) → S2 (K (v, C')) (K' (vM, M')) Q) : S2 ((M_Reader_readSigned N C lo).bind K) ((M_Md_signed N M lo').bind K') Q := by
  by_cases c : C 3 4 = -1
  · rw [← eh c]
    obtain ⟨v, vM, C', M', e, e', p, f, g, r, b, _, _⟩ := signed2 (N := N) B hN P hl
    rw [e, e', pu_bs, pu_bs]
    exact k v vM C' M' p f g r b
  · obtain ⟨v, C', e, p, f, b, w⟩ := signedC (N := N) B hN P.c hl
    rw [e, sg_bad P.m (by rw [← P.w]; exact c), pu_bs, pu_bs]
    have nw : C' 3 4 ≠ -1 := by rw [w c]; exact c
    exact k v 0 C' M (Ps.mk p P.m (by rw [w c]; exact P.w) (fun z => absurd z nw)) f ⟨fun _ _ => rfl, fun _ _ _ => rfl⟩ (fun z => absurd z nw) b
theorem S2_w88 {x : Option Hp} {i v : Int} {n : Nat} (e : i = (n : Int)) (hn : n < 127) {K : Hp → Option Hp} {Q : Hp → Hp → Prop} (k : S2 x (K (hs M 88 n v)) Q) : S2 x ((wrA M 88 127 i v).bind K) Q := by
  rw [wr88 e hn, pu_bs]; exact k
theorem S2_r88 {x : Option Hp} {i : Int} {n : Nat} (e : i = (n : Int)) (hn : n < 127) {K : Int → Option Hp} {Q : Hp → Hp → Prop} (k : S2 x (K (M 88 n)) Q) : S2 x ((rdA M 88 127 i).bind K) Q := by
  rw [rd88 e hn, pu_bs]; exact k
theorem S2_id {x y : Option Hp} {Q : Hp → Hp → Prop} (s : S2 x y Q) : S2 (x.bind (fun z => some z)) (y.bind (fun z => some z)) Q := by
  obtain ⟨a, b, e, e', q⟩ := s
  exact ⟨a, b, by rw [e, pu_bs], by rw [e', pu_bs], q⟩
theorem S2_mono {x y : Option Hp} {Q Q' : Hp → Hp → Prop} (s : S2 x y Q) (m : ∀ C M, Q C M → Q' C M) : S2 x y Q' := by
  obtain ⟨a, b, e, e', q⟩ := s
  exact ⟨a, b, e, e', m a b q⟩
theorem Q2_tr {hM M : Hp} {x y : Option Hp} (f : FrR hM M) (s : S2 x y (Q2 t E M)) : S2 x y (Q2 t E hM) := S2_mono s (fun _ _ q => ⟨q.1, q.2.1, f.trans q.2.2⟩)
end Lj

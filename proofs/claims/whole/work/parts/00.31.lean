def msum (b : Nat → Int) : Nat → Int
  | 0 => 0
  | n + 1 => msum b n + b (2 + n)
def yd (b : Nat → Int) : Int := msum b (b 1).toNat
def fq (b : Nat → Int) (f w : Nat) : Int := b (43 + 7 * f + w)
def okF (b : Nat → Int) (f : Nat) : Prop := (1 ≤ fq b f 0 ∧ fq b f 0 ≤ 9) ∧ ((fq b f 1 = 1 ∧ fq b f 2 = -1 ∧ -99 ≤ fq b f 3 ∧ fq b f 3 ≤ 99) ∨ (fq b f 1 = 0 ∧ 0 ≤ fq b f 2 ∧ fq b f 2 < b 1 ∧ 0 ≤ fq b f 3 ∧ fq b f 3 < b (2 + (fq b f 2).toNat))) ∧ (0 ≤ fq b f 4 ∧ fq b f 4 ≤ 3) ∧ (0 ≤ fq b f 5 ∧ fq b f 5 ≤ 9) ∧ (0 ≤ fq b f 6 ∧ fq b f 6 ≤ 9)
def OkB (b : Nat → Int) : Prop := (3 ≤ b 0 ∧ b 0 ≤ 9) ∧ (1 ≤ b 1 ∧ b 1 ≤ 8) ∧ (∀ i : Nat, (i : Int) < b 1 → 5 ≤ b (2 + i) ∧ b (2 + i) ≤ 31) ∧ (b 10 = 0 ∨ (2 ≤ b 10 ∧ b 10 ≤ 9)) ∧ (0 ≤ b 11 ∧ b 11 < b 1) ∧ (1 ≤ b 12 ∧ b 12 ≤ 19) ∧ (0 ≤ b 13 ∧ b 13 ≤ 99) ∧ (0 ≤ b 14 ∧ b 14 ≤ 30) ∧ (1 ≤ b 15 ∧ b 15 ≤ 30) ∧ (b 13 + b 15 + b 0 ≤ yd b) ∧ (1 ≤ b 16 ∧ b 16 ≤ 60) ∧ (0 ≤ b 17 ∧ b 17 < 512) ∧ (1 ≤ b 18 ∧ b 18 ≤ 9) ∧ (0 ≤ b 19 ∧ b 19 ≤ 9) ∧ (0 ≤ b 20 ∧ b 20 ≤ 4) ∧ (∀ k : Nat, (k : Int) < b 20 → -99 ≤ b (21 + 3 * k) ∧ b (21 + 3 * k) ≤ b (22 + 3 * k) ∧ b (22 + 3 * k) ≤ 99 ∧ 0 ≤ b (23 + 3 * k) ∧ b (23 + 3 * k) ≤ 9) ∧ (0 ≤ b 33 ∧ b 33 ≤ 4) ∧ (∀ k : Nat, (k : Int) < b 33 → -99 ≤ b (34 + 2 * k) ∧ b (34 + 2 * k) ≤ b (35 + 2 * k) ∧ b (35 + 2 * k) ≤ 99) ∧ (0 ≤ b 42 ∧ b 42 ≤ 12) ∧ (∀ f : Nat, (f : Int) < b 42 → okF b f)
theorem OkB.week {b : Nat → Int} (q_ : OkB b) : 3 ≤ b 0 ∧ b 0 ≤ 9 := q_.1
theorem OkB.mon {b : Nat → Int} (q_ : OkB b) : 1 ≤ b 1 ∧ b 1 ≤ 8 := q_.2.1
theorem OkB.days {b : Nat → Int} (q_ : OkB b) : ∀ i : Nat, (i : Int) < b 1 → 5 ≤ b (2 + i) ∧ b (2 + i) ≤ 31 := q_.2.2.1
theorem OkB.leap {b : Nat → Int} (q_ : OkB b) : b 10 = 0 ∨ (2 ≤ b 10 ∧ b 10 ≤ 9) := q_.2.2.2.1
theorem OkB.lmon {b : Nat → Int} (q_ : OkB b) : 0 ≤ b 11 ∧ b 11 < b 1 := q_.2.2.2.2.1
theorem OkB.cyc {b : Nat → Int} (q_ : OkB b) : 1 ≤ b 12 ∧ b 12 ≤ 19 := q_.2.2.2.2.2.1
theorem OkB.fst {b : Nat → Int} (q_ : OkB b) : 0 ≤ b 13 ∧ b 13 ≤ 99 := q_.2.2.2.2.2.2.1
theorem OkB.stp {b : Nat → Int} (q_ : OkB b) : 0 ≤ b 14 ∧ b 14 ≤ 30 := q_.2.2.2.2.2.2.2.1
theorem OkB.spn {b : Nat → Int} (q_ : OkB b) : 1 ≤ b 15 ∧ b 15 ≤ 30 := q_.2.2.2.2.2.2.2.2.1
theorem OkB.fit {b : Nat → Int} (q_ : OkB b) : b 13 + b 15 + b 0 ≤ yd b := q_.2.2.2.2.2.2.2.2.2.1
theorem OkB.rch {b : Nat → Int} (q_ : OkB b) : 1 ≤ b 16 ∧ b 16 ≤ 60 := q_.2.2.2.2.2.2.2.2.2.2.1
theorem OkB.fas {b : Nat → Int} (q_ : OkB b) : 0 ≤ b 17 ∧ b 17 < 512 := q_.2.2.2.2.2.2.2.2.2.2.2.1
theorem OkB.lft {b : Nat → Int} (q_ : OkB b) : 1 ≤ b 18 ∧ b 18 ≤ 9 := q_.2.2.2.2.2.2.2.2.2.2.2.2.1
theorem OkB.rst {b : Nat → Int} (q_ : OkB b) : 0 ≤ b 19 ∧ b 19 ≤ 9 := q_.2.2.2.2.2.2.2.2.2.2.2.2.2.1
theorem OkB.nse {b : Nat → Int} (q_ : OkB b) : 0 ≤ b 20 ∧ b 20 ≤ 4 := q_.2.2.2.2.2.2.2.2.2.2.2.2.2.2.1
theorem OkB.sea {b : Nat → Int} (q_ : OkB b) : ∀ k : Nat, (k : Int) < b 20 → -99 ≤ b (21 + 3 * k) ∧ b (21 + 3 * k) ≤ b (22 + 3 * k) ∧ b (22 + 3 * k) ≤ 99 ∧ 0 ≤ b (23 + 3 * k) ∧ b (23 + 3 * k) ≤ 9 := q_.2.2.2.2.2.2.2.2.2.2.2.2.2.2.2.1
theorem OkB.ncl {b : Nat → Int} (q_ : OkB b) : 0 ≤ b 33 ∧ b 33 ≤ 4 := q_.2.2.2.2.2.2.2.2.2.2.2.2.2.2.2.2.1
theorem OkB.clo {b : Nat → Int} (q_ : OkB b) : ∀ k : Nat, (k : Int) < b 33 → -99 ≤ b (34 + 2 * k) ∧ b (34 + 2 * k) ≤ b (35 + 2 * k) ∧ b (35 + 2 * k) ≤ 99 := q_.2.2.2.2.2.2.2.2.2.2.2.2.2.2.2.2.2.1
theorem OkB.many {b : Nat → Int} (q_ : OkB b) : 0 ≤ b 42 ∧ b 42 ≤ 12 := q_.2.2.2.2.2.2.2.2.2.2.2.2.2.2.2.2.2.2.1
theorem OkB.fea {b : Nat → Int} (q_ : OkB b) : ∀ f : Nat, (f : Int) < b 42 → okF b f := q_.2.2.2.2.2.2.2.2.2.2.2.2.2.2.2.2.2.2.2
theorem OkB.mk {b : Nat → Int} (week_ : 3 ≤ b 0 ∧ b 0 ≤ 9) (mon_ : 1 ≤ b 1 ∧ b 1 ≤ 8) (days_ : ∀ i : Nat, (i : Int) < b 1 → 5 ≤ b (2 + i) ∧ b (2 + i) ≤ 31) (leap_ : b 10 = 0 ∨ (2 ≤ b 10 ∧ b 10 ≤ 9)) (lmon_ : 0 ≤ b 11 ∧ b 11 < b 1) (cyc_ : 1 ≤ b 12 ∧ b 12 ≤ 19) (fst_ : 0 ≤ b 13 ∧ b 13 ≤ 99) (stp_ : 0 ≤ b 14 ∧ b 14 ≤ 30) (spn_ : 1 ≤ b 15 ∧ b 15 ≤ 30) (fit_ : b 13 + b 15 + b 0 ≤ yd b) (rch_ : 1 ≤ b 16 ∧ b 16 ≤ 60) (fas_ : 0 ≤ b 17 ∧ b 17 < 512) (lft_ : 1 ≤ b 18 ∧ b 18 ≤ 9) (rst_ : 0 ≤ b 19 ∧ b 19 ≤ 9) (nse_ : 0 ≤ b 20 ∧ b 20 ≤ 4) (sea_ : ∀ k : Nat, (k : Int) < b 20 → -99 ≤ b (21 + 3 * k) ∧ b (21 + 3 * k) ≤ b (22 + 3 * k) ∧ b (22 + 3 * k) ≤ 99 ∧ 0 ≤ b (23 + 3 * k) ∧ b (23 + 3 * k) ≤ 9) (ncl_ : 0 ≤ b 33 ∧ b 33 ≤ 4) (clo_ : ∀ k : Nat, (k : Int) < b 33 → -99 ≤ b (34 + 2 * k) ∧ b (34 + 2 * k) ≤ b (35 + 2 * k) ∧ b (35 + 2 * k) ≤ 99) (many_ : 0 ≤ b 42 ∧ b 42 ≤ 12) (fea_ : ∀ f : Nat, (f : Int) < b 42 → okF b f) : OkB b := ⟨week_, mon_, days_, leap_, lmon_, cyc_, fst_, stp_, spn_, fit_, rch_, fas_, lft_, rst_, nse_, sea_, ncl_, clo_, many_, fea_⟩
def NoB (b : Nat → Int) : Prop := (∀ k, k ≠ 16 → k ≠ 18 → b k = 0) ∧ (b 16 = 20) ∧ (b 18 = 5)
theorem NoB.z {b : Nat → Int} (q_ : NoB b) : ∀ k, k ≠ 16 → k ≠ 18 → b k = 0 := q_.1
theorem NoB.r {b : Nat → Int} (q_ : NoB b) : b 16 = 20 := q_.2.1
theorem NoB.l {b : Nat → Int} (q_ : NoB b) : b 18 = 5 := q_.2.2
theorem NoB.mk {b : Nat → Int} (z_ : ∀ k, k ≠ 16 → k ≠ 18 → b k = 0) (r_ : b 16 = 20) (l_ : b 18 = 5) : NoB b := ⟨z_, r_, l_⟩
def cl (b : Nat → Int) (f : Nat) : Int := fq b f 0 * 160 + 128 + fq b f 1 * 16 + 15 - f
def above (b : Nat → Int) (f : Nat) : Int := cnt (fun g => decide (cl b f < cl b g)) (b 42).toNat
def CB (b : Nat → Int) (h : Hp) (B : Nat) : Prop := (h B 0 = if 0 < b 0 then 1 else 0) ∧ (h B 1 = b 0) ∧ (h B 2 = b 1) ∧ (h B 3 = yd b) ∧ (h B 4 = b 10) ∧ (h B 5 = b 11) ∧ (h B 6 = b 12) ∧ (h B 7 = b 13) ∧ (h B 8 = b 14) ∧ (h B 9 = b 15) ∧ (h B 10 = b 16) ∧ (h B 11 = b 19) ∧ (h B 12 = b 18) ∧ (h B 13 = b 17) ∧ (∀ i : Nat, (i : Int) < b 1 → h (B + 1) i = b (2 + i)) ∧ (h (B + 2) 0 = b 20) ∧ (∀ k : Nat, (k : Int) < b 20 → h (B + 3) k = b (21 + 3 * k) ∧ h (B + 4) k = b (22 + 3 * k) ∧ h (B + 5) k = b (23 + 3 * k)) ∧ (h (B + 6) 0 = b 33) ∧ (∀ k : Nat, (k : Int) < b 33 → h (B + 7) k = b (34 + 2 * k) ∧ h (B + 8) k = b (35 + 2 * k)) ∧ (h (B + 10) 0 = b 42) ∧ (∀ f : Nat, (f : Int) < b 42 → h (B + 11) f = fq b f 0 ∧ h (B + 12) f = fq b f 2 ∧ h (B + 13) f = fq b f 3 ∧ h (B + 14) f = fq b f 4 ∧ h (B + 15) f = fq b f 5 ∧ h (B + 16) f = fq b f 6) ∧ (∀ f : Nat, (f : Int) < b 42 → h (B + 17) f = cl b f) ∧ (∀ f : Nat, (f : Int) < b 42 → h (B + 18) (above b f).toNat = f)
theorem CB.told {b : Nat → Int} {h : Hp} {B : Nat} (q_ : CB b h B) : h B 0 = if 0 < b 0 then 1 else 0 := q_.1
theorem CB.week {b : Nat → Int} {h : Hp} {B : Nat} (q_ : CB b h B) : h B 1 = b 0 := q_.2.1
theorem CB.mon {b : Nat → Int} {h : Hp} {B : Nat} (q_ : CB b h B) : h B 2 = b 1 := q_.2.2.1
theorem CB.yday {b : Nat → Int} {h : Hp} {B : Nat} (q_ : CB b h B) : h B 3 = yd b := q_.2.2.2.1
theorem CB.leap {b : Nat → Int} {h : Hp} {B : Nat} (q_ : CB b h B) : h B 4 = b 10 := q_.2.2.2.2.1
theorem CB.lmon {b : Nat → Int} {h : Hp} {B : Nat} (q_ : CB b h B) : h B 5 = b 11 := q_.2.2.2.2.2.1
theorem CB.cyc {b : Nat → Int} {h : Hp} {B : Nat} (q_ : CB b h B) : h B 6 = b 12 := q_.2.2.2.2.2.2.1
theorem CB.fst {b : Nat → Int} {h : Hp} {B : Nat} (q_ : CB b h B) : h B 7 = b 13 := q_.2.2.2.2.2.2.2.1
theorem CB.stp {b : Nat → Int} {h : Hp} {B : Nat} (q_ : CB b h B) : h B 8 = b 14 := q_.2.2.2.2.2.2.2.2.1
theorem CB.spn {b : Nat → Int} {h : Hp} {B : Nat} (q_ : CB b h B) : h B 9 = b 15 := q_.2.2.2.2.2.2.2.2.2.1
theorem CB.rch {b : Nat → Int} {h : Hp} {B : Nat} (q_ : CB b h B) : h B 10 = b 16 := q_.2.2.2.2.2.2.2.2.2.2.1
theorem CB.rst {b : Nat → Int} {h : Hp} {B : Nat} (q_ : CB b h B) : h B 11 = b 19 := q_.2.2.2.2.2.2.2.2.2.2.2.1
theorem CB.lft {b : Nat → Int} {h : Hp} {B : Nat} (q_ : CB b h B) : h B 12 = b 18 := q_.2.2.2.2.2.2.2.2.2.2.2.2.1
theorem CB.fas {b : Nat → Int} {h : Hp} {B : Nat} (q_ : CB b h B) : h B 13 = b 17 := q_.2.2.2.2.2.2.2.2.2.2.2.2.2.1
theorem CB.days {b : Nat → Int} {h : Hp} {B : Nat} (q_ : CB b h B) : ∀ i : Nat, (i : Int) < b 1 → h (B + 1) i = b (2 + i) := q_.2.2.2.2.2.2.2.2.2.2.2.2.2.2.1
theorem CB.nse {b : Nat → Int} {h : Hp} {B : Nat} (q_ : CB b h B) : h (B + 2) 0 = b 20 := q_.2.2.2.2.2.2.2.2.2.2.2.2.2.2.2.1
theorem CB.sea {b : Nat → Int} {h : Hp} {B : Nat} (q_ : CB b h B) : ∀ k : Nat, (k : Int) < b 20 → h (B + 3) k = b (21 + 3 * k) ∧ h (B + 4) k = b (22 + 3 * k) ∧ h (B + 5) k = b (23 + 3 * k) := q_.2.2.2.2.2.2.2.2.2.2.2.2.2.2.2.2.1
theorem CB.ncl {b : Nat → Int} {h : Hp} {B : Nat} (q_ : CB b h B) : h (B + 6) 0 = b 33 := q_.2.2.2.2.2.2.2.2.2.2.2.2.2.2.2.2.2.1
theorem CB.clo {b : Nat → Int} {h : Hp} {B : Nat} (q_ : CB b h B) : ∀ k : Nat, (k : Int) < b 33 → h (B + 7) k = b (34 + 2 * k) ∧ h (B + 8) k = b (35 + 2 * k) := q_.2.2.2.2.2.2.2.2.2.2.2.2.2.2.2.2.2.2.1
theorem CB.many {b : Nat → Int} {h : Hp} {B : Nat} (q_ : CB b h B) : h (B + 10) 0 = b 42 := q_.2.2.2.2.2.2.2.2.2.2.2.2.2.2.2.2.2.2.2.1
theorem CB.fea {b : Nat → Int} {h : Hp} {B : Nat} (q_ : CB b h B) : ∀ f : Nat, (f : Int) < b 42 → h (B + 11) f = fq b f 0 ∧ h (B + 12) f = fq b f 2 ∧ h (B + 13) f = fq b f 3 ∧ h (B + 14) f = fq b f 4 ∧ h (B + 15) f = fq b f 5 ∧ h (B + 16) f = fq b f 6 := q_.2.2.2.2.2.2.2.2.2.2.2.2.2.2.2.2.2.2.2.2.1
theorem CB.clm {b : Nat → Int} {h : Hp} {B : Nat} (q_ : CB b h B) : ∀ f : Nat, (f : Int) < b 42 → h (B + 17) f = cl b f := q_.2.2.2.2.2.2.2.2.2.2.2.2.2.2.2.2.2.2.2.2.2.1
theorem CB.rnk {b : Nat → Int} {h : Hp} {B : Nat} (q_ : CB b h B) : ∀ f : Nat, (f : Int) < b 42 → h (B + 18) (above b f).toNat = f := q_.2.2.2.2.2.2.2.2.2.2.2.2.2.2.2.2.2.2.2.2.2.2
theorem CB.mk {b : Nat → Int} {h : Hp} {B : Nat} (told_ : h B 0 = if 0 < b 0 then 1 else 0) (week_ : h B 1 = b 0) (mon_ : h B 2 = b 1) (yday_ : h B 3 = yd b) (leap_ : h B 4 = b 10) (lmon_ : h B 5 = b 11) (cyc_ : h B 6 = b 12) (fst_ : h B 7 = b 13) (stp_ : h B 8 = b 14) (spn_ : h B 9 = b 15) (rch_ : h B 10 = b 16) (rst_ : h B 11 = b 19) (lft_ : h B 12 = b 18) (fas_ : h B 13 = b 17) (days_ : ∀ i : Nat, (i : Int) < b 1 → h (B + 1) i = b (2 + i)) (nse_ : h (B + 2) 0 = b 20) (sea_ : ∀ k : Nat, (k : Int) < b 20 → h (B + 3) k = b (21 + 3 * k) ∧ h (B + 4) k = b (22 + 3 * k) ∧ h (B + 5) k = b (23 + 3 * k)) (ncl_ : h (B + 6) 0 = b 33) (clo_ : ∀ k : Nat, (k : Int) < b 33 → h (B + 7) k = b (34 + 2 * k) ∧ h (B + 8) k = b (35 + 2 * k)) (many_ : h (B + 10) 0 = b 42) (fea_ : ∀ f : Nat, (f : Int) < b 42 → h (B + 11) f = fq b f 0 ∧ h (B + 12) f = fq b f 2 ∧ h (B + 13) f = fq b f 3 ∧ h (B + 14) f = fq b f 4 ∧ h (B + 15) f = fq b f 5 ∧ h (B + 16) f = fq b f 6) (clm_ : ∀ f : Nat, (f : Int) < b 42 → h (B + 17) f = cl b f) (rnk_ : ∀ f : Nat, (f : Int) < b 42 → h (B + 18) (above b f).toNat = f) : CB b h B := ⟨told_, week_, mon_, yday_, leap_, lmon_, cyc_, fst_, stp_, spn_, rch_, rst_, lft_, fas_, days_, nse_, sea_, ncl_, clo_, many_, fea_, clm_, rnk_⟩
def isL (b : Nat → Int) (y : Int) : Bool := decide (0 < b 10 ∧ y % b 10 = 0)
def lp (b : Nat → Int) (y : Int) : Int := if isL b y then 1 else 0
def ahd (b : Nat → Int) (y : Int) : Int := y * yd b + (if 0 < b 10 then (y + b 10 - 1) / b 10 else 0)
def wdy (b : Nat → Int) (y : Int) : Int := ahd b y % b 0
def ful (b : Nat → Int) (y : Int) : Int := b 13 + b 14 * (y % b 12) % b 15
def psc (b : Nat → Int) (y : Int) : Int := ful b y + b 0 - (wdy b y + ful b y) % b 0
theorem msum_le {b : Nat → Int} (ok : OkB b) : ∀ n : Nat, (n : Int) ≤ b 1 → 5 * n ≤ msum b n ∧ msum b n ≤ 31 * n := by
  intro n
  induction n with
  | zero => intro _; simp [msum]
  | succ n ih =>
    intro h
    have h1 := ih (by omega)
    have h2 := ok.days n (by omega)
    rw [msum]
    omega
theorem yd_le {b : Nat → Int} (ok : OkB b) : 5 ≤ yd b ∧ yd b ≤ 248 := by
  have := msum_le ok (b 1).toNat (by have := ok.mon; omega)
  have := ok.mon
  unfold yd
  omega

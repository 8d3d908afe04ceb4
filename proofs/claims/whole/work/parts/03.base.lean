theorem iZ_inb {i : Int} {n : Nat} (h : 0 ≤ i ∧ i < (n : Int)) (hn : n < 2147483648) : vp_in (iZ i) n ∧ (iZ i).toNatClampNeg = i.toNat := by
  have e : (iZ i).toInt = i := toInt_iZ (by omega) (by omega)
  refine ⟨vp_in_iff.mpr (by rw [e]; exact h), ?_⟩
  rw [Int32.toNatClampNeg, e]
/-! SHAPES: a cell is an object (class, its slots: a number, or the cell that it names) or an array (0 int, 1 byte, 2 boolean, 3 long; its length) -/
abbrev Shp : Type := (Nat × List (Option Nat)) ⊕ (Nat × Nat)
def shL : List Shp := [.inl (8, [some 1, some 3, some 23, some 42, some 61, some 66, some 73, none, none]),
  .inl (6, [some 2, none]),
  .inr (1, 400),
  .inl (3, [some 1, some 4, none, none, none, none, none, none]),
  .inl (0, [none, none, none, none, none, none, none, none, none, none, none, none, none, none, some 5, some 6, some 10, some 14]),
  .inr (0, 8),
  .inl (5, [none, some 7, some 8, some 9]),
  .inr (0, 4),
  .inr (0, 4),
  .inr (0, 4),
  .inl (5, [none, some 11, some 12, some 13]),
  .inr (0, 4),
  .inr (0, 4),
  .inr (0, 4),
  .inl (1, [none, some 15, some 16, some 17, some 18, some 19, some 20, some 21, some 22]),
  .inr (0, 12),
  .inr (0, 12),
  .inr (0, 12),
  .inr (0, 12),
  .inr (0, 12),
  .inr (0, 12),
  .inr (0, 12),
  .inr (0, 12),
  .inl (0, [none, none, none, none, none, none, none, none, none, none, none, none, none, none, some 24, some 25, some 29, some 33]),
  .inr (0, 8),
  .inl (5, [none, some 26, some 27, some 28]),
  .inr (0, 4),
  .inr (0, 4),
  .inr (0, 4),
  .inl (5, [none, some 30, some 31, some 32]),
  .inr (0, 4),
  .inr (0, 4),
  .inr (0, 4),
  .inl (1, [none, some 34, some 35, some 36, some 37, some 38, some 39, some 40, some 41]),
  .inr (0, 12),
  .inr (0, 12),
  .inr (0, 12),
  .inr (0, 12),
  .inr (0, 12),
  .inr (0, 12),
  .inr (0, 12),
  .inr (0, 12),
  .inl (0, [none, none, none, none, none, none, none, none, none, none, none, none, none, none, some 43, some 44, some 48, some 52]),
  .inr (0, 8),
  .inl (5, [none, some 45, some 46, some 47]),
  .inr (0, 4),
  .inr (0, 4),
  .inr (0, 4),
  .inl (5, [none, some 49, some 50, some 51]),
  .inr (0, 4),
  .inr (0, 4),
  .inr (0, 4),
  .inl (1, [none, some 53, some 54, some 55, some 56, some 57, some 58, some 59, some 60]),
  .inr (0, 12),
  .inr (0, 12),
  .inr (0, 12),
  .inr (0, 12),
  .inr (0, 12),
  .inr (0, 12),
  .inr (0, 12),
  .inr (0, 12),
  .inl (2, [none, some 62, some 63, some 64, some 65]),
  .inr (0, 8),
  .inr (0, 8),
  .inr (0, 8),
  .inr (0, 8),
  .inl (7, [some 23, some 33, none, none, none, none, some 67, some 68, some 69, some 70, some 71, some 72]),
  .inr (0, 249),
  .inr (0, 249),
  .inr (0, 12),
  .inr (0, 12),
  .inr (0, 12),
  .inr (0, 12),
  .inl (4, [some 23, some 33, some 66, none, some 74, some 75, none, none, some 76, some 77, some 78, some 79, some 80, some 81, some 82]),
  .inr (0, 80),
  .inr (0, 80),
  .inr (0, 960),
  .inr (0, 960),
  .inr (0, 960),
  .inr (0, 80),
  .inr (0, 80),
  .inr (0, 80),
  .inr (0, 11),
  .inl (9, [none, some 84, some 85, none, some 86, none, some 87, none, none, none, none, some 88, none, none, none, none, some 89, some 90, some 91, some 92, some 93, some 94, none, none, none, some 95]),
  .inr (0, 127),
  .inr (0, 1016),
  .inr (0, 127),
  .inr (0, 400),
  .inr (0, 127),
  .inr (0, 12),
  .inr (0, 12),
  .inr (0, 12),
  .inr (0, 260),
  .inr (0, 260),
  .inr (0, 12),
  .inr (2, 5200),
  .inr (3, 1)]
def shp (c : Nat) : Shp := shL.getD c (.inr (0, 0))
def R_Book : String := "FeastBook$Book"
def T_Book : u_T := fun k => match k with
  | 0 => ("FeastBook$Book", "told", "Z", false)
  | 1 => ("FeastBook$Book", "week", "I", false)
  | 2 => ("FeastBook$Book", "months", "I", false)
  | 3 => ("FeastBook$Book", "yearDays", "I", false)
  | 4 => ("FeastBook$Book", "leapEach", "I", false)
  | 5 => ("FeastBook$Book", "leapMonth", "I", false)
  | 6 => ("FeastBook$Book", "moonCycle", "I", false)
  | 7 => ("FeastBook$Book", "moonFirst", "I", false)
  | 8 => ("FeastBook$Book", "moonStep", "I", false)
  | 9 => ("FeastBook$Book", "moonSpan", "I", false)
  | 10 => ("FeastBook$Book", "reach", "I", false)
  | 11 => ("FeastBook$Book", "rest", "I", false)
  | 12 => ("FeastBook$Book", "lift", "I", false)
  | 13 => ("FeastBook$Book", "fasting", "I", false)
  | 14 => ("FeastBook$Book", "monthDays", "[I", true)
  | 15 => ("FeastBook$Book", "seasons", "LFeastBook$Spans;", true)
  | 16 => ("FeastBook$Book", "closed", "LFeastBook$Spans;", true)
  | _ => ("FeastBook$Book", "feasts", "LFeastBook$Feasts;", true)
def ty_Book : Nat → FieldType := fun k => match k with
  | 0 => .boolean
  | 1 => .int
  | 2 => .int
  | 3 => .int
  | 4 => .int
  | 5 => .int
  | 6 => .int
  | 7 => .int
  | 8 => .int
  | 9 => .int
  | 10 => .int
  | 11 => .int
  | 12 => .int
  | 13 => .int
  | 14 => .array .int
  | 15 => .object "FeastBook$Spans"
  | 16 => .object "FeastBook$Spans"
  | _ => .object "FeastBook$Feasts"
def R_Feasts : String := "FeastBook$Feasts"
def T_Feasts : u_T := fun k => match k with
  | 0 => ("FeastBook$Feasts", "size", "I", false)
  | 1 => ("FeastBook$Feasts", "ranks", "[I", true)
  | 2 => ("FeastBook$Feasts", "months", "[I", true)
  | 3 => ("FeastBook$Feasts", "days", "[I", true)
  | 4 => ("FeastBook$Feasts", "laws", "[I", true)
  | 5 => ("FeastBook$Feasts", "vigils", "[I", true)
  | 6 => ("FeastBook$Feasts", "octaves", "[I", true)
  | 7 => ("FeastBook$Feasts", "claims", "[I", true)
  | _ => ("FeastBook$Feasts", "ranking", "[I", true)
def ty_Feasts : Nat → FieldType := fun k => match k with
  | 0 => .int
  | 1 => .array .int
  | 2 => .array .int
  | 3 => .array .int
  | 4 => .array .int
  | 5 => .array .int
  | 6 => .array .int
  | 7 => .array .int
  | _ => .array .int
def R_Past : String := "FeastBook$Past"
def T_Past : u_T := fun k => match k with
  | 0 => ("FeastBook$Past", "size", "I", false)
  | 1 => ("FeastBook$Past", "kinds", "[I", true)
  | 2 => ("FeastBook$Past", "feasts", "[I", true)
  | 3 => ("FeastBook$Past", "months", "[I", true)
  | _ => ("FeastBook$Past", "values", "[I", true)
def ty_Past : Nat → FieldType := fun k => match k with
  | 0 => .int
  | 1 => .array .int
  | 2 => .array .int
  | 3 => .array .int
  | _ => .array .int
def R_Reader : String := "FeastBook$Reader"
def T_Reader : u_T := fun k => match k with
  | 0 => ("FeastBook$Reader", "tape", "LFeastBook$Tape;", true)
  | 1 => ("FeastBook$Reader", "draft", "LFeastBook$Book;", true)
  | 2 => ("FeastBook$Reader", "place", "I", false)
  | 3 => ("FeastBook$Reader", "begin", "I", false)
  | 4 => ("FeastBook$Reader", "wrong", "I", false)
  | 5 => ("FeastBook$Reader", "reachTold", "Z", false)
  | 6 => ("FeastBook$Reader", "restTold", "Z", false)
  | _ => ("FeastBook$Reader", "liftTold", "Z", false)
def ty_Reader : Nat → FieldType := fun k => match k with
  | 0 => .object "FeastBook$Tape"
  | 1 => .object "FeastBook$Book"
  | 2 => .int
  | 3 => .int
  | 4 => .int
  | 5 => .boolean
  | 6 => .boolean
  | _ => .boolean
def R_Round : String := "FeastBook$Round"
def T_Round : u_T := fun k => match k with
  | 0 => ("FeastBook$Round", "book", "LFeastBook$Book;", true)
  | 1 => ("FeastBook$Round", "feasts", "LFeastBook$Feasts;", true)
  | 2 => ("FeastBook$Round", "plan", "LFeastBook$YearPlan;", true)
  | 3 => ("FeastBook$Round", "years", "I", false)
  | 4 => ("FeastBook$Round", "often", "[I", true)
  | 5 => ("FeastBook$Round", "firstYear", "[I", true)
  | 6 => ("FeastBook$Round", "settled", "Z", false)
  | 7 => ("FeastBook$Round", "measured", "Z", false)
  | 8 => ("FeastBook$Round", "days", "[I", true)
  | 9 => ("FeastBook$Round", "places", "[I", true)
  | 10 => ("FeastBook$Round", "fateRows", "[I", true)
  | 11 => ("FeastBook$Round", "runs", "[I", true)
  | 12 => ("FeastBook$Round", "ahead", "[I", true)
  | 13 => ("FeastBook$Round", "behind", "[I", true)
  | _ => ("FeastBook$Round", "keptBy", "[I", true)
def ty_Round : Nat → FieldType := fun k => match k with
  | 0 => .object "FeastBook$Book"
  | 1 => .object "FeastBook$Feasts"
  | 2 => .object "FeastBook$YearPlan"
  | 3 => .int
  | 4 => .array .int
  | 5 => .array .int
  | 6 => .boolean
  | 7 => .boolean
  | 8 => .array .int
  | 9 => .array .int
  | 10 => .array .int
  | 11 => .array .int
  | 12 => .array .int
  | 13 => .array .int
  | _ => .array .int
def R_Spans : String := "FeastBook$Spans"
def T_Spans : u_T := fun k => match k with
  | 0 => ("FeastBook$Spans", "size", "I", false)
  | 1 => ("FeastBook$Spans", "from", "[I", true)
  | 2 => ("FeastBook$Spans", "to", "[I", true)
  | _ => ("FeastBook$Spans", "ranks", "[I", true)
def ty_Spans : Nat → FieldType := fun k => match k with
  | 0 => .int
  | 1 => .array .int
  | 2 => .array .int
  | _ => .array .int
def R_Tape : String := "FeastBook$Tape"
def T_Tape : u_T := fun k => match k with
  | 0 => ("FeastBook$Tape", "bytes", "[B", true)
  | _ => ("FeastBook$Tape", "size", "I", false)
def ty_Tape : Nat → FieldType := fun k => match k with
  | 0 => .array .byte
  | _ => .int
def R_YearPlan : String := "FeastBook$YearPlan"
def T_YearPlan : u_T := fun k => match k with
  | 0 => ("FeastBook$YearPlan", "book", "LFeastBook$Book;", true)
  | 1 => ("FeastBook$YearPlan", "feasts", "LFeastBook$Feasts;", true)
  | 2 => ("FeastBook$YearPlan", "laid", "I", false)
  | 3 => ("FeastBook$YearPlan", "settled", "I", false)
  | 4 => ("FeastBook$YearPlan", "days", "I", false)
  | 5 => ("FeastBook$YearPlan", "pasch", "I", false)
  | 6 => ("FeastBook$YearPlan", "base", "[I", true)
  | 7 => ("FeastBook$YearPlan", "office", "[I", true)
  | 8 => ("FeastBook$YearPlan", "dayOf", "[I", true)
  | 9 => ("FeastBook$YearPlan", "vigilOf", "[I", true)
  | 10 => ("FeastBook$YearPlan", "placeOf", "[I", true)
  | _ => ("FeastBook$YearPlan", "fateOf", "[I", true)
def ty_YearPlan : Nat → FieldType := fun k => match k with
  | 0 => .object "FeastBook$Book"
  | 1 => .object "FeastBook$Feasts"
  | 2 => .int
  | 3 => .int
  | 4 => .int
  | 5 => .int
  | 6 => .array .int
  | 7 => .array .int
  | 8 => .array .int
  | 9 => .array .int
  | 10 => .array .int
  | _ => .array .int
def R_FB : String := "FeastBook"
def T_FB : u_T := fun k => match k with
  | 0 => ("FeastBook", "tape", "LFeastBook$Tape;", true)
  | 1 => ("FeastBook", "reader", "LFeastBook$Reader;", true)
  | 2 => ("FeastBook", "now", "LFeastBook$Book;", true)
  | 3 => ("FeastBook", "kept", "LFeastBook$Book;", true)
  | 4 => ("FeastBook", "past", "LFeastBook$Past;", true)
  | 5 => ("FeastBook", "plan", "LFeastBook$YearPlan;", true)
  | 6 => ("FeastBook", "round", "LFeastBook$Round;", true)
  | 7 => ("FeastBook", "hasImage", "Z", false)
  | _ => ("FeastBook", "wrongByte", "I", false)
def ty_FB : Nat → FieldType := fun k => match k with
  | 0 => .object "FeastBook$Tape"
  | 1 => .object "FeastBook$Reader"
  | 2 => .object "FeastBook$Book"
  | 3 => .object "FeastBook$Book"
  | 4 => .object "FeastBook$Past"
  | 5 => .object "FeastBook$YearPlan"
  | 6 => .object "FeastBook$Round"
  | 7 => .boolean
  | _ => .int
def R_Md : String := "FeastBookModel"
def T_Md : u_T := fun k => match k with
  | 0 => ("FeastBookModel", "thrown", "I", false)
  | 1 => ("FeastBookModel", "m", "[I", true)
  | 2 => ("FeastBookModel", "undoRow", "[I", true)
  | 3 => ("FeastBookModel", "undos", "I", false)
  | 4 => ("FeastBookModel", "imageRow", "[I", true)
  | 5 => ("FeastBookModel", "hasImage", "Z", false)
  | 6 => ("FeastBookModel", "tape", "[I", true)
  | 7 => ("FeastBookModel", "taped", "I", false)
  | 8 => ("FeastBookModel", "end", "I", false)
  | 9 => ("FeastBookModel", "at", "I", false)
  | 10 => ("FeastBookModel", "fault", "I", false)
  | 11 => ("FeastBookModel", "read", "[I", true)
  | 12 => ("FeastBookModel", "toldOnce", "I", false)
  | 13 => ("FeastBookModel", "days", "I", false)
  | 14 => ("FeastBookModel", "weekday", "I", false)
  | 15 => ("FeastBookModel", "pasch", "I", false)
  | 16 => ("FeastBookModel", "dayOf", "[I", true)
  | 17 => ("FeastBookModel", "where", "[I", true)
  | 18 => ("FeastBookModel", "fate", "[I", true)
  | 19 => ("FeastBookModel", "there", "[I", true)
  | 20 => ("FeastBookModel", "joins", "[I", true)
  | 21 => ("FeastBookModel", "row", "[I", true)
  | 22 => ("FeastBookModel", "baseRank", "I", false)
  | 23 => ("FeastBookModel", "baseKind", "I", false)
  | 24 => ("FeastBookModel", "baseFeast", "I", false)
  | _ => ("FeastBookModel", "sorts", "[Z", true)
def ty_Md : Nat → FieldType := fun k => match k with
  | 0 => .int
  | 1 => .array .int
  | 2 => .array .int
  | 3 => .int
  | 4 => .array .int
  | 5 => .boolean
  | 6 => .array .int
  | 7 => .int
  | 8 => .int
  | 9 => .int
  | 10 => .int
  | 11 => .array .int
  | 12 => .int
  | 13 => .int
  | 14 => .int
  | 15 => .int
  | 16 => .array .int
  | 17 => .array .int
  | 18 => .array .int
  | 19 => .array .int
  | 20 => .array .int
  | 21 => .array .int
  | 22 => .int
  | 23 => .int
  | 24 => .int
  | _ => .array .boolean
abbrev clL : List vw_C := [(R_Book, T_Book, 18), (R_Feasts, T_Feasts, 9), (R_Past, T_Past, 5), (R_Reader, T_Reader, 8), (R_Round, T_Round, 15), (R_Spans, T_Spans, 4), (R_Tape, T_Tape, 2), (R_YearPlan, T_YearPlan, 12), (R_FB, T_FB, 9), (R_Md, T_Md, 26)]
def fsl (ad : Nat → Nat) (f : Nat → Int) : Nat → List (Option Nat) → List Value
  | _, [] => []
  | k, none :: r => .int (iZ (f k)) :: fsl ad f (k + 1) r
  | k, some t :: r => .ref (ad t) :: fsl ad f (k + 1) r
def ent (ad : Nat → Nat) (cA : Nat → ClassId) (h : Hp) (c : Nat) : va_E := match shp c with
  | .inl (ci, sl) => .inr (ci, fsl ad (h c) 0 sl)
  | .inr (ty, n) => if ty = 3 then .inl (cA 3, n, .inr (.inl (fun k => Int64.ofInt (h c k)))) else .inl (cA ty, n, .inl (fun k => iZ (h c k)))
def wl (ad : Nat → Nat) (cA : Nat → ClassId) (h : Hp) : va_W := (List.range 97).map (fun c => (ad c, ent ad cA h c))
def tyL (cA : Nat → ClassId) : List (ClassId × FieldType) := [(cA 0, .int), (cA 1, .byte), (cA 2, .boolean), (cA 3, .long)]
theorem wl_at (ad : Nat → Nat) (cA : Nat → ClassId) (h : Hp) {o : Nat} (ho : o < 97) : (wl ad cA h)[o]? = some (ad o, ent ad cA h o) := by simp [wl, ho]
theorem wl_len (ad : Nat → Nat) (cA : Nat → ClassId) (h : Hp) : (wl ad cA h).length = 97 := by simp [wl]
theorem ent_o {ad : Nat → Nat} {cA : Nat → ClassId} {h : Hp} {o ci : Nat} {sl : List (Option Nat)} (hsh : shp o = .inl (ci, sl)) : ent ad cA h o = .inr (ci, fsl ad (h o) 0 sl) := by simp [ent, hsh]
theorem ent_a {ad : Nat → Nat} {cA : Nat → ClassId} {h : Hp} {o ty n : Nat} (hsh : shp o = .inr (ty, n)) (ht : ty ≠ 3) : ent ad cA h o = .inl (cA ty, n, .inl (fun k => iZ (h o k))) := by simp [ent, hsh, ht]
theorem ent_l {ad : Nat → Nat} {cA : Nat → ClassId} {h : Hp} {o n : Nat} (hsh : shp o = .inr (3, n)) : ent ad cA h o = .inl (cA 3, n, .inr (.inl (fun k => Int64.ofInt (h o k)))) := by simp [ent, hsh]
theorem ent_cong {ad : Nat → Nat} {cA : Nat → ClassId} {h h' : Hp} {o : Nat} (e : h o = h' o) : ent ad cA h o = ent ad cA h' o := by simp only [ent, e]
theorem fsl_get (ad : Nat → Nat) (f : Nat → Int) : ∀ (sl : List (Option Nat)) (j k : Nat), sl[k]? = some none → (fsl ad f j sl)[k]? = some (.int (iZ (f (j + k))))
  | [], _, _, h => by simp at h
  | none :: r, j, 0, _ => by simp [fsl]
  | some t :: r, j, 0, h => by simp at h
  | none :: r, j, k + 1, h => by
    have h2 : r[k]? = some none := by simpa using h
    have e := fsl_get ad f r (j + 1) k h2
    rw [show j + (k + 1) = j + 1 + k by omega]
    simpa [fsl] using e
  | some t :: r, j, k + 1, h => by
    have h2 : r[k]? = some none := by simpa using h
    have e := fsl_get ad f r (j + 1) k h2
    rw [show j + (k + 1) = j + 1 + k by omega]
    simpa [fsl] using e
theorem fsl_getR (ad : Nat → Nat) (f : Nat → Int) : ∀ (sl : List (Option Nat)) (j k t : Nat), sl[k]? = some (some t) → (fsl ad f j sl)[k]? = some (.ref (ad t))
  | [], _, _, _, h => by simp at h
  | none :: r, j, 0, _, h => by simp at h
  | some t :: r, j, 0, t', h => by
    have h2 : t = t' := by simpa using h
    subst h2
    simp [fsl]
  | none :: r, j, k + 1, t, h => by
    have h2 : r[k]? = some (some t) := by simpa using h
    simpa [fsl] using fsl_getR ad f r (j + 1) k t h2
  | some _ :: r, j, k + 1, t, h => by
    have h2 : r[k]? = some (some t) := by simpa using h
    simpa [fsl] using fsl_getR ad f r (j + 1) k t h2
theorem fsl_len (ad : Nat → Nat) (f : Nat → Int) : ∀ (sl : List (Option Nat)) (j : Nat), (fsl ad f j sl).length = sl.length
  | [], _ => rfl
  | none :: r, j => by simp [fsl, fsl_len ad f r (j + 1)]
  | some _ :: r, j => by simp [fsl, fsl_len ad f r (j + 1)]
theorem fsl_cong (ad : Nat → Nat) {f g : Nat → Int} : ∀ (sl : List (Option Nat)) (j : Nat), (∀ i, j ≤ i → f i = g i) → fsl ad f j sl = fsl ad g j sl
  | [], _, _ => rfl
  | none :: r, j, h => by rw [fsl, fsl, h j (Nat.le_refl j), fsl_cong ad r (j + 1) (fun i hi => h i (by omega))]
  | some _ :: r, j, h => by rw [fsl, fsl, fsl_cong ad r (j + 1) (fun i hi => h i (by omega))]
theorem fsl_set (ad : Nat → Nat) (f g : Nat → Int) (v : Int) : ∀ (sl : List (Option Nat)) (j k : Nat), sl[k]? = some none → g (j + k) = v → (∀ i, i ≠ j + k → g i = f i) → (fsl ad f j sl).set k (.int (iZ v)) = fsl ad g j sl
  | [], _, _, h, _, _ => by simp at h
  | none :: r, j, 0, _, hv, hg => by
    have hv' : g j = v := hv
    rw [fsl, fsl, List.set_cons_zero, hv', fsl_cong ad r (j + 1) (fun i hi => (hg i (by omega)).symm)]
  | some t :: r, j, 0, h, _, _ => by simp at h
  | none :: r, j, k + 1, h, hv, hg => by
    have h2 : r[k]? = some none := by simpa using h
    rw [fsl, fsl, List.set_cons_succ, fsl_set ad f g v r (j + 1) k h2 (by rw [← hv]; congr 1; omega) (fun i hi => hg i (by omega)), hg j (by omega)]
  | some t :: r, j, k + 1, h, hv, hg => by
    have h2 : r[k]? = some none := by simpa using h
    rw [fsl, fsl, List.set_cons_succ, fsl_set ad f g v r (j + 1) k h2 (by rw [← hv]; congr 1; omega) (fun i hi => hg i (by omega))]
theorem wl_set (ad : Nat → Nat) (cA : Nat → ClassId) {h h' : Hp} {o : Nat} {e : va_E} (he : ent ad cA h' o = e) (hk : ∀ c, c ≠ o → h' c = h c) : (wl ad cA h).set o (ad o, e) = wl ad cA h' := by
  apply List.ext_getElem?
  intro i
  by_cases hi : i < 97
  · by_cases hio : i = o
    · subst hio
      rw [List.getElem?_set_self (by rw [wl_len]; exact hi), wl_at ad cA h' hi, he]
    · rw [List.getElem?_set_ne (Ne.symm hio), wl_at ad cA h hi, wl_at ad cA h' hi, ent_cong (hk i hio)]
  · rw [List.getElem?_eq_none (by rw [List.length_set, wl_len]; omega), List.getElem?_eq_none (by rw [wl_len]; omega)]
theorem hs_o (h : Hp) (o k : Nat) (v : Int) : ∀ c, c ≠ o → hs h o k v c = h c := fun c hc => by funext j; simp [hs, hc]
theorem hs_eq (h : Hp) (o k : Nat) (v : Int) : hs h o k v o k = v := by simp [hs]
theorem hs_ne (h : Hp) (o k : Nat) (v : Int) {j : Nat} (hj : j ≠ k) : hs h o k v o j = h o j := by simp [hs, hj]
/-- addresses that are apart, and of a kind -/
def Apt (A : Nat → Prop) (ad : Nat → Nat) : Prop := (∀ i j, i < 97 → j < 97 → ad i = ad j → i = j) ∧ ∀ i, i < 97 → A (ad i)
theorem Apt.D {A : Nat → Prop} {ad : Nat → Nat} (h : Apt A ad) (cA : Nat → ClassId) (hp : Hp) : va_D A (wl ad cA hp) := by
  have key : ∀ (k : Nat) (q : Nat × va_E), (wl ad cA hp)[k]? = some q → k < 97 ∧ q.1 = ad k := by
    intro k q hq
    have hk : k < 97 := by
      have := (List.getElem?_eq_some_iff.mp hq).1
      rwa [wl_len] at this
    rw [wl_at ad cA hp hk] at hq
    cases hq
    exact ⟨hk, rfl⟩
  refine ⟨fun i j p q hi hj hpq => ?_, fun k q hk => ?_⟩
  · obtain ⟨h1, e1⟩ := key i p hi
    obtain ⟨h2, e2⟩ := key j q hj
    exact h.1 i j h1 h2 (by rw [← e1, ← e2]; exact hpq)
  · obtain ⟨h1, e1⟩ := key k q hk
    rw [e1]
    exact h.2 k h1
/-- the cells of the world -/
def FA (ad : Nat → Nat) : Nat → Prop := fun q => ∃ i, i < 97 ∧ q = ad i
theorem Apt.self {A : Nat → Prop} {ad : Nat → Nat} (h : Apt A ad) : Apt (FA ad) ad := ⟨h.1, fun i hi => ⟨i, hi, rfl⟩⟩
def KC (ci : Nat) (Cn : String) (Tn : u_T) (n : Nat) (ty : Nat → FieldType) : Prop := clL[ci]? = some (Cn, Tn, n) ∧ (∀ w ∈ u_ws Cn Tn n, w ∈ TT) ∧ (∀ k, k < n → parseFieldDescriptor (Tn k).2.2.1 = some (ty k)) ∧ (∀ a, a < n → ∀ b, b < n → a ≠ b → (Tn a).2.1 ≠ (Tn b).2.1)
def stL : List (String × Nat × String) := [("FeastBook$Reader", 74, "book"), ("FeastBook$Reader", 100, "leap"), ("FeastBook$Reader", 108, "moon"), ("FeastBook$Reader", 142, "feast"), ("FeastBook$Reader", 197, "at"), ("FeastBook$Reader", 198, "on"), ("FeastBook$Reader", 222, "move"), ("FeastBook$Reader", 224, "back"), ("FeastBook$Reader", 226, "join"), ("FeastBook$Reader", 228, "drop"), ("FeastBook$Reader", 207, "vigil"), ("FeastBook$Reader", 213, "octave"), ("FeastBook$Reader", 147, "season"), ("FeastBook$Reader", 152, "closed"), ("FeastBook$Reader", 157, "fast"), ("FeastBook$Reader", 165, "reach"), ("FeastBook$Reader", 169, "rest"), ("FeastBook$Reader", 173, "lift"), ("FeastBookModel", 192, "book"), ("FeastBookModel", 204, "leap"), ("FeastBookModel", 206, "moon"), ("FeastBookModel", 232, "reach"), ("FeastBookModel", 238, "rest"), ("FeastBookModel", 240, "lift"), ("FeastBookModel", 242, "fast"), ("FeastBookModel", 247, "season"), ("FeastBookModel", 252, "closed"), ("FeastBookModel", 257, "feast"), ("FeastBookModel", 222, "at"), ("FeastBookModel", 223, "on"), ("FeastBookModel", 214, "move"), ("FeastBookModel", 216, "back"), ("FeastBookModel", 218, "join"), ("FeastBookModel", 220, "drop"), ("FeastBookModel", 228, "vigil"), ("FeastBookModel", 230, "octave"), ("FeastBook", 85, "the text is wrong"), ("FeastBook", 382, "no such year"), ("FeastBook", 393, "no such what"), ("FeastBook", 385, "no such day"), ("FeastBook", 387, "no such feast"), ("FeastBook", 396, "the number is none"), ("FeastBook", 243, "no such month or day"), ("FeastBook", 378, "there is no book"), ("FeastBook", 260, "nothing to take back"), ("FeastBook", 389, "both feasts are one")]
def stA (i : Nat) : String × Nat × String := stL.getD i ("", 0, "")
def byS : List (List Int32) := [[98, 111, 111, 107], [108, 101, 97, 112], [109, 111, 111, 110], [102, 101, 97, 115, 116], [97, 116], [111, 110], [109, 111, 118, 101], [98, 97, 99, 107], [106, 111, 105, 110], [100, 114, 111, 112], [118, 105, 103, 105, 108], [111, 99, 116, 97, 118, 101], [115, 101, 97, 115, 111, 110], [99, 108, 111, 115, 101, 100], [102, 97, 115, 116], [114, 101, 97, 99, 104], [114, 101, 115, 116], [108, 105, 102, 116], [98, 111, 111, 107], [108, 101, 97, 112], [109, 111, 111, 110], [114, 101, 97, 99, 104], [114, 101, 115, 116], [108, 105, 102, 116], [102, 97, 115, 116], [115, 101, 97, 115, 111, 110], [99, 108, 111, 115, 101, 100], [102, 101, 97, 115, 116], [97, 116], [111, 110], [109, 111, 118, 101], [98, 97, 99, 107], [106, 111, 105, 110], [100, 114, 111, 112], [118, 105, 103, 105, 108], [111, 99, 116, 97, 118, 101]]
def dcL : List MethodName := [⟨"java/lang/RuntimeException", "<init>", "()V"⟩, ⟨"java/lang/RuntimeException", "<init>", "(Ljava/lang/String;)V"⟩, ⟨"java/lang/Exception", "<init>", "()V"⟩, ⟨"java/lang/Exception", "<init>", "(Ljava/lang/String;)V"⟩, ⟨"java/lang/Throwable", "<init>", "()V"⟩, ⟨"java/lang/Throwable", "<init>", "(Ljava/lang/String;)V"⟩, ⟨"java/lang/IndexOutOfBoundsException", "<init>", "()V"⟩, ⟨"java/lang/IndexOutOfBoundsException", "<init>", "(Ljava/lang/String;)V"⟩]
def mnL : List (String × Nat × MethodName × String) := [("FeastBook", 11, ⟨"FeastBook$Tape", "<init>", "()V"⟩, "FeastBook"), ("FeastBook$Reader", 11, ⟨"FeastBook$Book", "<init>", "()V"⟩, "FeastBook"), ("FeastBook$Book", 24, ⟨"FeastBook$Spans", "<init>", "()V"⟩, "FeastBook"), ("FeastBook$Book", 34, ⟨"FeastBook$Feasts", "<init>", "()V"⟩, "FeastBook"), ("FeastBook", 27, ⟨"FeastBook$Book", "<init>", "()V"⟩, "FeastBook"), ("FeastBook", 37, ⟨"FeastBook$Past", "<init>", "()V"⟩, "FeastBook")]
def ctL : List String := ["java/lang/IndexOutOfBoundsException", "java/util/NoSuchElementException", "java/lang/IllegalArgumentException", "java/lang/IllegalStateException"]
def ncL : List (String × String) := [("java/util/NoSuchElementException", "java/lang/IndexOutOfBoundsException"), ("java/lang/IllegalArgumentException", "java/lang/IndexOutOfBoundsException"), ("java/lang/IllegalArgumentException", "java/lang/IllegalStateException"), ("java/lang/IllegalArgumentException", "java/util/NoSuchElementException"), ("java/util/NoSuchElementException", "java/lang/IllegalStateException")]
theorem va_Nw.warmC2 {a b : String} {s U : State} (hW : s.WarmedH U.vm) (hZ : va_Nw (.castable a b) s) : va_Nw (.castable a b) U := va_tabs rfl (rfl : (s.setVm U.vm).vm = U.vm) (by rw [Cond.castable_setVm hW.alike]; exact hZ)
/-- what is given beside the world: string constants, statics of the JDK -/
def EV (sd sv : Nat → Nat) (A : Nat → Prop) (U : State) (H : Heap) : Prop := (∀ i, i < 36 → vk_S 1 [(byS.getD i []).length] [byS.getD i []] (fun _ => sd i) (fun _ => sv i) A U H) ∧ (∀ i, i < 46 → vk_R (stA i).1 (stA i).2.1 (stA i).2.2 (sd i) U) ∧ va_Z "java/lang/String" "COMPACT_STRINGS" "Z" (.int 1) A U H ∧ vx_Zq Bundle.tN "UNASSIGNED_STACK" Bundle.steD A U H ∧ vx_Zq Bundle.tN "SUPPRESSED_SENTINEL" Bundle.listD A U H ∧ va_Zq "jdk/internal/util/Preconditions" "SIOOBE_FORMATTER" "Ljava/util/function/BiFunction;" A U H ∧ (∀ x ∈ dcL, va_Nw (.declares x) U) ∧ (∀ q ∈ mnL, va_Nw (.methodLinkNest q.1 q.2.1 q.2.2.1 q.2.2.2) U) ∧ (∀ q ∈ ctL, va_Nw (.castable q q) U) ∧ (∀ q ∈ ncL, va_Nc q.1 q.2 U)
theorem EV.same {sd sv : Nat → Nat} {A : Nat → Prop} {u U : State} {H : Heap} (hv : U.vm = u.vm) (h : EV sd sv A u H) : EV sd sv A U H := by
  have ha : u.vm.Alike U.vm := by rw [hv]; exact Vm.Alike.refl _
  exact ⟨fun i hi => vk_S.moved ha (h.1 i hi), fun i hi => vk_R.same hv (h.2.1 i hi), va_Z.moved ha h.2.2.1, vx_Zq.moved ha h.2.2.2.1, vx_Zq.moved ha h.2.2.2.2.1, va_Zq.moved ha h.2.2.2.2.2.1, fun x hx => va_Nw.same rfl hv.symm (h.2.2.2.2.2.2.1 x hx), fun q hq => va_Nw.same rfl hv.symm (h.2.2.2.2.2.2.2.1 q hq), fun q hq => va_Nw.same rfl hv.symm (h.2.2.2.2.2.2.2.2.1 q hq), fun q hq => va_Nc.moved ha (h.2.2.2.2.2.2.2.2.2 q hq)⟩
theorem EV.to {sd sv : Nat → Nat} {A B : Nat → Prop} {s U : State} {H : Heap} {locs : List Loc} (h : EV sd sv A s s.heap) (hS : va_S A s.heap H locs) (hW : s.WarmedH U.vm) (hU : U.heap = H) (hAB : ∀ q, B q → A q) : EV sd sv B U U.heap := by
  subst hU
  have hk : ∀ a : Nat, a < s.heap.size → ¬ A a → U.heap[a]? = s.heap[a]? := hS.2.1
  exact ⟨fun i hi => vk_S.narrow (vk_S.moved hW.alike ((h.1 i hi).kept hk)) hAB, fun i hi => vk_R.warm hW (h.2.1 i hi), va_Z.narrow (va_Z.moved hW.alike (h.2.2.1.kept hk)) hAB, vx_Zq.narrow (vx_Zq.moved hW.alike (h.2.2.2.1.kept hk)) hAB, vx_Zq.narrow (vx_Zq.moved hW.alike (h.2.2.2.2.1.kept hk)) hAB, va_Zq.narrow (va_Zq.moved hW.alike (h.2.2.2.2.2.1.kept hk)) hAB, fun x hx => va_Nw.warmD hW (h.2.2.2.2.2.2.1 x hx), fun q hq => va_Nw.warmM hW (h.2.2.2.2.2.2.2.1 q hq), fun q hq => va_Nw.warmC2 hW (h.2.2.2.2.2.2.2.2.1 q hq), fun q hq => va_Nc.moved hW.alike (h.2.2.2.2.2.2.2.2.2 q hq)⟩
theorem nm_Book : ∀ a, a < 18 → ∀ b, b < 18 → a ≠ b → (T_Book a).2.1 ≠ (T_Book b).2.1 := by decide +kernel
theorem tk_Book : ∀ k, k < 18 → parseFieldDescriptor (T_Book k).2.2.1 = some (ty_Book k) := by decide +kernel
theorem in_Book : ∀ w ∈ u_ws R_Book T_Book 18, w ∈ TT := by
  have e : u_ws R_Book T_Book 18 = [(Jvm.Cond.lays "FeastBook$Book" "FeastBook$Book" "told" "Z"), (Jvm.Cond.lays "FeastBook$Book" "FeastBook$Book" "week" "I"), (Jvm.Cond.lays "FeastBook$Book" "FeastBook$Book" "months" "I"), (Jvm.Cond.lays "FeastBook$Book" "FeastBook$Book" "yearDays" "I"), (Jvm.Cond.lays "FeastBook$Book" "FeastBook$Book" "leapEach" "I"), (Jvm.Cond.lays "FeastBook$Book" "FeastBook$Book" "leapMonth" "I"), (Jvm.Cond.lays "FeastBook$Book" "FeastBook$Book" "moonCycle" "I"), (Jvm.Cond.lays "FeastBook$Book" "FeastBook$Book" "moonFirst" "I"), (Jvm.Cond.lays "FeastBook$Book" "FeastBook$Book" "moonStep" "I"), (Jvm.Cond.lays "FeastBook$Book" "FeastBook$Book" "moonSpan" "I"), (Jvm.Cond.lays "FeastBook$Book" "FeastBook$Book" "reach" "I"), (Jvm.Cond.lays "FeastBook$Book" "FeastBook$Book" "rest" "I"), (Jvm.Cond.lays "FeastBook$Book" "FeastBook$Book" "lift" "I"), (Jvm.Cond.lays "FeastBook$Book" "FeastBook$Book" "fasting" "I"), (Jvm.Cond.laysFinal "FeastBook$Book" "FeastBook$Book" "monthDays" "[I"), (Jvm.Cond.laysFinal "FeastBook$Book" "FeastBook$Book" "seasons" "LFeastBook$Spans;"), (Jvm.Cond.laysFinal "FeastBook$Book" "FeastBook$Book" "closed" "LFeastBook$Spans;"), (Jvm.Cond.laysFinal "FeastBook$Book" "FeastBook$Book" "feasts" "LFeastBook$Feasts;")] := by decide +kernel
  rw [e]
  simp only [List.forall_mem_cons]
  exact ⟨mT1 206 (by decide +kernel) (by decide +kernel), mT1 208 (by decide +kernel) (by decide +kernel), mT1 210 (by decide +kernel) (by decide +kernel), mT1 212 (by decide +kernel) (by decide +kernel), mT1 214 (by decide +kernel) (by decide +kernel), mT1 216 (by decide +kernel) (by decide +kernel), mT1 218 (by decide +kernel) (by decide +kernel), mT1 220 (by decide +kernel) (by decide +kernel), mT1 222 (by decide +kernel) (by decide +kernel), mT1 224 (by decide +kernel) (by decide +kernel), mT1 226 (by decide +kernel) (by decide +kernel), mT1 228 (by decide +kernel) (by decide +kernel), mT1 230 (by decide +kernel) (by decide +kernel), mT1 232 (by decide +kernel) (by decide +kernel), mT1 234 (by decide +kernel) (by decide +kernel), mT1 236 (by decide +kernel) (by decide +kernel), mT1 238 (by decide +kernel) (by decide +kernel), mT2 0 (by decide +kernel) (by decide +kernel), fun _ h => absurd h List.not_mem_nil⟩
theorem kc_Book : KC 0 R_Book T_Book 18 ty_Book := ⟨rfl, in_Book, tk_Book, nm_Book⟩
theorem nm_Feasts : ∀ a, a < 9 → ∀ b, b < 9 → a ≠ b → (T_Feasts a).2.1 ≠ (T_Feasts b).2.1 := by decide +kernel
theorem tk_Feasts : ∀ k, k < 9 → parseFieldDescriptor (T_Feasts k).2.2.1 = some (ty_Feasts k) := by decide +kernel
theorem in_Feasts : ∀ w ∈ u_ws R_Feasts T_Feasts 9, w ∈ TT := by
  have e : u_ws R_Feasts T_Feasts 9 = [(Jvm.Cond.lays "FeastBook$Feasts" "FeastBook$Feasts" "size" "I"), (Jvm.Cond.laysFinal "FeastBook$Feasts" "FeastBook$Feasts" "ranks" "[I"), (Jvm.Cond.laysFinal "FeastBook$Feasts" "FeastBook$Feasts" "months" "[I"), (Jvm.Cond.laysFinal "FeastBook$Feasts" "FeastBook$Feasts" "days" "[I"), (Jvm.Cond.laysFinal "FeastBook$Feasts" "FeastBook$Feasts" "laws" "[I"), (Jvm.Cond.laysFinal "FeastBook$Feasts" "FeastBook$Feasts" "vigils" "[I"), (Jvm.Cond.laysFinal "FeastBook$Feasts" "FeastBook$Feasts" "octaves" "[I"), (Jvm.Cond.laysFinal "FeastBook$Feasts" "FeastBook$Feasts" "claims" "[I"), (Jvm.Cond.laysFinal "FeastBook$Feasts" "FeastBook$Feasts" "ranking" "[I")] := by decide +kernel
  rw [e]
  simp only [List.forall_mem_cons]
  exact ⟨mT1 132 (by decide +kernel) (by decide +kernel), mT1 134 (by decide +kernel) (by decide +kernel), mT1 136 (by decide +kernel) (by decide +kernel), mT1 138 (by decide +kernel) (by decide +kernel), mT1 140 (by decide +kernel) (by decide +kernel), mT1 142 (by decide +kernel) (by decide +kernel), mT1 144 (by decide +kernel) (by decide +kernel), mT1 146 (by decide +kernel) (by decide +kernel), mT1 148 (by decide +kernel) (by decide +kernel), fun _ h => absurd h List.not_mem_nil⟩
theorem kc_Feasts : KC 1 R_Feasts T_Feasts 9 ty_Feasts := ⟨rfl, in_Feasts, tk_Feasts, nm_Feasts⟩
theorem nm_Past : ∀ a, a < 5 → ∀ b, b < 5 → a ≠ b → (T_Past a).2.1 ≠ (T_Past b).2.1 := by decide +kernel
theorem tk_Past : ∀ k, k < 5 → parseFieldDescriptor (T_Past k).2.2.1 = some (ty_Past k) := by decide +kernel
theorem in_Past : ∀ w ∈ u_ws R_Past T_Past 5, w ∈ TT := by
  have e : u_ws R_Past T_Past 5 = [(Jvm.Cond.lays "FeastBook$Past" "FeastBook$Past" "size" "I"), (Jvm.Cond.laysFinal "FeastBook$Past" "FeastBook$Past" "kinds" "[I"), (Jvm.Cond.laysFinal "FeastBook$Past" "FeastBook$Past" "feasts" "[I"), (Jvm.Cond.laysFinal "FeastBook$Past" "FeastBook$Past" "months" "[I"), (Jvm.Cond.laysFinal "FeastBook$Past" "FeastBook$Past" "values" "[I")] := by decide +kernel
  rw [e]
  simp only [List.forall_mem_cons]
  exact ⟨mT2 47 (by decide +kernel) (by decide +kernel), mT2 49 (by decide +kernel) (by decide +kernel), mT2 51 (by decide +kernel) (by decide +kernel), mT2 53 (by decide +kernel) (by decide +kernel), mT2 55 (by decide +kernel) (by decide +kernel), fun _ h => absurd h List.not_mem_nil⟩
theorem kc_Past : KC 2 R_Past T_Past 5 ty_Past := ⟨rfl, in_Past, tk_Past, nm_Past⟩
theorem nm_Reader : ∀ a, a < 8 → ∀ b, b < 8 → a ≠ b → (T_Reader a).2.1 ≠ (T_Reader b).2.1 := by decide +kernel
theorem tk_Reader : ∀ k, k < 8 → parseFieldDescriptor (T_Reader k).2.2.1 = some (ty_Reader k) := by decide +kernel
theorem in_Reader : ∀ w ∈ u_ws R_Reader T_Reader 8, w ∈ TT := by
  have e : u_ws R_Reader T_Reader 8 = [(Jvm.Cond.laysFinal "FeastBook$Reader" "FeastBook$Reader" "tape" "LFeastBook$Tape;"), (Jvm.Cond.laysFinal "FeastBook$Reader" "FeastBook$Reader" "draft" "LFeastBook$Book;"), (Jvm.Cond.lays "FeastBook$Reader" "FeastBook$Reader" "place" "I"), (Jvm.Cond.lays "FeastBook$Reader" "FeastBook$Reader" "begin" "I"), (Jvm.Cond.lays "FeastBook$Reader" "FeastBook$Reader" "wrong" "I"), (Jvm.Cond.lays "FeastBook$Reader" "FeastBook$Reader" "reachTold" "Z"), (Jvm.Cond.lays "FeastBook$Reader" "FeastBook$Reader" "restTold" "Z"), (Jvm.Cond.lays "FeastBook$Reader" "FeastBook$Reader" "liftTold" "Z")] := by decide +kernel
  rw [e]
  simp only [List.forall_mem_cons]
  exact ⟨mT2 12 (by decide +kernel) (by decide +kernel), mT2 14 (by decide +kernel) (by decide +kernel), mT2 16 (by decide +kernel) (by decide +kernel), mT2 18 (by decide +kernel) (by decide +kernel), mT2 20 (by decide +kernel) (by decide +kernel), mT2 22 (by decide +kernel) (by decide +kernel), mT2 24 (by decide +kernel) (by decide +kernel), mT2 26 (by decide +kernel) (by decide +kernel), fun _ h => absurd h List.not_mem_nil⟩
theorem kc_Reader : KC 3 R_Reader T_Reader 8 ty_Reader := ⟨rfl, in_Reader, tk_Reader, nm_Reader⟩
theorem nm_Round : ∀ a, a < 15 → ∀ b, b < 15 → a ≠ b → (T_Round a).2.1 ≠ (T_Round b).2.1 := by decide +kernel
theorem tk_Round : ∀ k, k < 15 → parseFieldDescriptor (T_Round k).2.2.1 = some (ty_Round k) := by decide +kernel
theorem in_Round : ∀ w ∈ u_ws R_Round T_Round 15, w ∈ TT := by
  have e : u_ws R_Round T_Round 15 = [(Jvm.Cond.laysFinal "FeastBook$Round" "FeastBook$Round" "book" "LFeastBook$Book;"), (Jvm.Cond.laysFinal "FeastBook$Round" "FeastBook$Round" "feasts" "LFeastBook$Feasts;"), (Jvm.Cond.laysFinal "FeastBook$Round" "FeastBook$Round" "plan" "LFeastBook$YearPlan;"), (Jvm.Cond.lays "FeastBook$Round" "FeastBook$Round" "years" "I"), (Jvm.Cond.laysFinal "FeastBook$Round" "FeastBook$Round" "often" "[I"), (Jvm.Cond.laysFinal "FeastBook$Round" "FeastBook$Round" "firstYear" "[I"), (Jvm.Cond.lays "FeastBook$Round" "FeastBook$Round" "settled" "Z"), (Jvm.Cond.lays "FeastBook$Round" "FeastBook$Round" "measured" "Z"), (Jvm.Cond.laysFinal "FeastBook$Round" "FeastBook$Round" "days" "[I"), (Jvm.Cond.laysFinal "FeastBook$Round" "FeastBook$Round" "places" "[I"), (Jvm.Cond.laysFinal "FeastBook$Round" "FeastBook$Round" "fateRows" "[I"), (Jvm.Cond.laysFinal "FeastBook$Round" "FeastBook$Round" "runs" "[I"), (Jvm.Cond.laysFinal "FeastBook$Round" "FeastBook$Round" "ahead" "[I"), (Jvm.Cond.laysFinal "FeastBook$Round" "FeastBook$Round" "behind" "[I"), (Jvm.Cond.laysFinal "FeastBook$Round" "FeastBook$Round" "keptBy" "[I")] := by decide +kernel
  rw [e]
  simp only [List.forall_mem_cons]
  exact ⟨mT2 134 (by decide +kernel) (by decide +kernel), mT2 136 (by decide +kernel) (by decide +kernel), mT2 138 (by decide +kernel) (by decide +kernel), mT2 140 (by decide +kernel) (by decide +kernel), mT2 142 (by decide +kernel) (by decide +kernel), mT2 144 (by decide +kernel) (by decide +kernel), mT2 146 (by decide +kernel) (by decide +kernel), mT2 148 (by decide +kernel) (by decide +kernel), mT2 150 (by decide +kernel) (by decide +kernel), mT2 152 (by decide +kernel) (by decide +kernel), mT2 154 (by decide +kernel) (by decide +kernel), mT2 156 (by decide +kernel) (by decide +kernel), mT2 158 (by decide +kernel) (by decide +kernel), mT2 160 (by decide +kernel) (by decide +kernel), mT2 162 (by decide +kernel) (by decide +kernel), fun _ h => absurd h List.not_mem_nil⟩
theorem kc_Round : KC 4 R_Round T_Round 15 ty_Round := ⟨rfl, in_Round, tk_Round, nm_Round⟩
theorem nm_Spans : ∀ a, a < 4 → ∀ b, b < 4 → a ≠ b → (T_Spans a).2.1 ≠ (T_Spans b).2.1 := by decide +kernel
theorem tk_Spans : ∀ k, k < 4 → parseFieldDescriptor (T_Spans k).2.2.1 = some (ty_Spans k) := by decide +kernel
theorem in_Spans : ∀ w ∈ u_ws R_Spans T_Spans 4, w ∈ TT := by
  have e : u_ws R_Spans T_Spans 4 = [(Jvm.Cond.lays "FeastBook$Spans" "FeastBook$Spans" "size" "I"), (Jvm.Cond.laysFinal "FeastBook$Spans" "FeastBook$Spans" "from" "[I"), (Jvm.Cond.laysFinal "FeastBook$Spans" "FeastBook$Spans" "to" "[I"), (Jvm.Cond.laysFinal "FeastBook$Spans" "FeastBook$Spans" "ranks" "[I")] := by decide +kernel
  rw [e]
  simp only [List.forall_mem_cons]
  exact ⟨mT1 83 (by decide +kernel) (by decide +kernel), mT1 85 (by decide +kernel) (by decide +kernel), mT1 87 (by decide +kernel) (by decide +kernel), mT1 89 (by decide +kernel) (by decide +kernel), fun _ h => absurd h List.not_mem_nil⟩
theorem kc_Spans : KC 5 R_Spans T_Spans 4 ty_Spans := ⟨rfl, in_Spans, tk_Spans, nm_Spans⟩
theorem nm_Tape : ∀ a, a < 2 → ∀ b, b < 2 → a ≠ b → (T_Tape a).2.1 ≠ (T_Tape b).2.1 := by decide +kernel
theorem tk_Tape : ∀ k, k < 2 → parseFieldDescriptor (T_Tape k).2.2.1 = some (ty_Tape k) := by decide +kernel
theorem in_Tape : ∀ w ∈ u_ws R_Tape T_Tape 2, w ∈ TT := by
  have e : u_ws R_Tape T_Tape 2 = [(Jvm.Cond.laysFinal "FeastBook$Tape" "FeastBook$Tape" "bytes" "[B"), (Jvm.Cond.lays "FeastBook$Tape" "FeastBook$Tape" "size" "I")] := by decide +kernel
  rw [e]
  simp only [List.forall_mem_cons]
  exact ⟨mT1 51 (by decide +kernel) (by decide +kernel), mT1 53 (by decide +kernel) (by decide +kernel), fun _ h => absurd h List.not_mem_nil⟩
theorem kc_Tape : KC 6 R_Tape T_Tape 2 ty_Tape := ⟨rfl, in_Tape, tk_Tape, nm_Tape⟩
theorem nm_YearPlan : ∀ a, a < 12 → ∀ b, b < 12 → a ≠ b → (T_YearPlan a).2.1 ≠ (T_YearPlan b).2.1 := by decide +kernel
theorem tk_YearPlan : ∀ k, k < 12 → parseFieldDescriptor (T_YearPlan k).2.2.1 = some (ty_YearPlan k) := by decide +kernel
theorem in_YearPlan : ∀ w ∈ u_ws R_YearPlan T_YearPlan 12, w ∈ TT := by
  have e : u_ws R_YearPlan T_YearPlan 12 = [(Jvm.Cond.laysFinal "FeastBook$YearPlan" "FeastBook$YearPlan" "book" "LFeastBook$Book;"), (Jvm.Cond.laysFinal "FeastBook$YearPlan" "FeastBook$YearPlan" "feasts" "LFeastBook$Feasts;"), (Jvm.Cond.lays "FeastBook$YearPlan" "FeastBook$YearPlan" "laid" "I"), (Jvm.Cond.lays "FeastBook$YearPlan" "FeastBook$YearPlan" "settled" "I"), (Jvm.Cond.lays "FeastBook$YearPlan" "FeastBook$YearPlan" "days" "I"), (Jvm.Cond.lays "FeastBook$YearPlan" "FeastBook$YearPlan" "pasch" "I"), (Jvm.Cond.laysFinal "FeastBook$YearPlan" "FeastBook$YearPlan" "base" "[I"), (Jvm.Cond.laysFinal "FeastBook$YearPlan" "FeastBook$YearPlan" "office" "[I"), (Jvm.Cond.laysFinal "FeastBook$YearPlan" "FeastBook$YearPlan" "dayOf" "[I"), (Jvm.Cond.laysFinal "FeastBook$YearPlan" "FeastBook$YearPlan" "vigilOf" "[I"), (Jvm.Cond.laysFinal "FeastBook$YearPlan" "FeastBook$YearPlan" "placeOf" "[I"), (Jvm.Cond.laysFinal "FeastBook$YearPlan" "FeastBook$YearPlan" "fateOf" "[I")] := by decide +kernel
  rw [e]
  simp only [List.forall_mem_cons]
  exact ⟨mT2 87 (by decide +kernel) (by decide +kernel), mT2 89 (by decide +kernel) (by decide +kernel), mT2 91 (by decide +kernel) (by decide +kernel), mT2 93 (by decide +kernel) (by decide +kernel), mT2 95 (by decide +kernel) (by decide +kernel), mT2 97 (by decide +kernel) (by decide +kernel), mT2 99 (by decide +kernel) (by decide +kernel), mT2 101 (by decide +kernel) (by decide +kernel), mT2 103 (by decide +kernel) (by decide +kernel), mT2 105 (by decide +kernel) (by decide +kernel), mT2 107 (by decide +kernel) (by decide +kernel), mT2 109 (by decide +kernel) (by decide +kernel), fun _ h => absurd h List.not_mem_nil⟩
theorem kc_YearPlan : KC 7 R_YearPlan T_YearPlan 12 ty_YearPlan := ⟨rfl, in_YearPlan, tk_YearPlan, nm_YearPlan⟩
theorem nm_FB : ∀ a, a < 9 → ∀ b, b < 9 → a ≠ b → (T_FB a).2.1 ≠ (T_FB b).2.1 := by decide +kernel
theorem tk_FB : ∀ k, k < 9 → parseFieldDescriptor (T_FB k).2.2.1 = some (ty_FB k) := by decide +kernel
theorem in_FB : ∀ w ∈ u_ws R_FB T_FB 9, w ∈ TT := by
  have e : u_ws R_FB T_FB 9 = [(Jvm.Cond.laysFinal "FeastBook" "FeastBook" "tape" "LFeastBook$Tape;"), (Jvm.Cond.laysFinal "FeastBook" "FeastBook" "reader" "LFeastBook$Reader;"), (Jvm.Cond.laysFinal "FeastBook" "FeastBook" "now" "LFeastBook$Book;"), (Jvm.Cond.laysFinal "FeastBook" "FeastBook" "kept" "LFeastBook$Book;"), (Jvm.Cond.laysFinal "FeastBook" "FeastBook" "past" "LFeastBook$Past;"), (Jvm.Cond.laysFinal "FeastBook" "FeastBook" "plan" "LFeastBook$YearPlan;"), (Jvm.Cond.laysFinal "FeastBook" "FeastBook" "round" "LFeastBook$Round;"), (Jvm.Cond.lays "FeastBook" "FeastBook" "hasImage" "Z"), (Jvm.Cond.lays "FeastBook" "FeastBook" "wrongByte" "I")] := by decide +kernel
  rw [e]
  simp only [List.forall_mem_cons]
  exact ⟨mT2 174 (by decide +kernel) (by decide +kernel), mT2 176 (by decide +kernel) (by decide +kernel), mT2 178 (by decide +kernel) (by decide +kernel), mT2 180 (by decide +kernel) (by decide +kernel), mT2 182 (by decide +kernel) (by decide +kernel), mT2 184 (by decide +kernel) (by decide +kernel), mT2 186 (by decide +kernel) (by decide +kernel), mT2 188 (by decide +kernel) (by decide +kernel), mT2 190 (by decide +kernel) (by decide +kernel), fun _ h => absurd h List.not_mem_nil⟩
theorem kc_FB : KC 8 R_FB T_FB 9 ty_FB := ⟨rfl, in_FB, tk_FB, nm_FB⟩
theorem nm_Md : ∀ a, a < 26 → ∀ b, b < 26 → a ≠ b → (T_Md a).2.1 ≠ (T_Md b).2.1 := by decide +kernel
theorem tk_Md : ∀ k, k < 26 → parseFieldDescriptor (T_Md k).2.2.1 = some (ty_Md k) := by decide +kernel
theorem in_Md : ∀ w ∈ u_ws R_Md T_Md 26, w ∈ TT := by
  have e : u_ws R_Md T_Md 26 = [(Jvm.Cond.lays "FeastBookModel" "FeastBookModel" "thrown" "I"), (Jvm.Cond.laysFinal "FeastBookModel" "FeastBookModel" "m" "[I"), (Jvm.Cond.laysFinal "FeastBookModel" "FeastBookModel" "undoRow" "[I"), (Jvm.Cond.lays "FeastBookModel" "FeastBookModel" "undos" "I"), (Jvm.Cond.laysFinal "FeastBookModel" "FeastBookModel" "imageRow" "[I"), (Jvm.Cond.lays "FeastBookModel" "FeastBookModel" "hasImage" "Z"), (Jvm.Cond.laysFinal "FeastBookModel" "FeastBookModel" "tape" "[I"), (Jvm.Cond.lays "FeastBookModel" "FeastBookModel" "taped" "I"), (Jvm.Cond.lays "FeastBookModel" "FeastBookModel" "end" "I"), (Jvm.Cond.lays "FeastBookModel" "FeastBookModel" "at" "I"), (Jvm.Cond.lays "FeastBookModel" "FeastBookModel" "fault" "I"), (Jvm.Cond.laysFinal "FeastBookModel" "FeastBookModel" "read" "[I"), (Jvm.Cond.lays "FeastBookModel" "FeastBookModel" "toldOnce" "I"), (Jvm.Cond.lays "FeastBookModel" "FeastBookModel" "days" "I"), (Jvm.Cond.lays "FeastBookModel" "FeastBookModel" "weekday" "I"), (Jvm.Cond.lays "FeastBookModel" "FeastBookModel" "pasch" "I"), (Jvm.Cond.laysFinal "FeastBookModel" "FeastBookModel" "dayOf" "[I"), (Jvm.Cond.laysFinal "FeastBookModel" "FeastBookModel" "where" "[I"), (Jvm.Cond.laysFinal "FeastBookModel" "FeastBookModel" "fate" "[I"), (Jvm.Cond.laysFinal "FeastBookModel" "FeastBookModel" "there" "[I"), (Jvm.Cond.laysFinal "FeastBookModel" "FeastBookModel" "joins" "[I"), (Jvm.Cond.laysFinal "FeastBookModel" "FeastBookModel" "row" "[I"), (Jvm.Cond.lays "FeastBookModel" "FeastBookModel" "baseRank" "I"), (Jvm.Cond.lays "FeastBookModel" "FeastBookModel" "baseKind" "I"), (Jvm.Cond.lays "FeastBookModel" "FeastBookModel" "baseFeast" "I"), (Jvm.Cond.laysFinal "FeastBookModel" "FeastBookModel" "sorts" "[Z")] := by decide +kernel
  rw [e]
  simp only [List.forall_mem_cons]
  exact ⟨mT8 122 (by decide +kernel) (by decide +kernel), mT8 124 (by decide +kernel) (by decide +kernel), mT8 126 (by decide +kernel) (by decide +kernel), mT8 128 (by decide +kernel) (by decide +kernel), mT8 130 (by decide +kernel) (by decide +kernel), mT8 132 (by decide +kernel) (by decide +kernel), mT8 134 (by decide +kernel) (by decide +kernel), mT8 136 (by decide +kernel) (by decide +kernel), mT8 138 (by decide +kernel) (by decide +kernel), mT8 140 (by decide +kernel) (by decide +kernel), mT8 142 (by decide +kernel) (by decide +kernel), mT8 144 (by decide +kernel) (by decide +kernel), mT8 146 (by decide +kernel) (by decide +kernel), mT8 148 (by decide +kernel) (by decide +kernel), mT8 150 (by decide +kernel) (by decide +kernel), mT8 152 (by decide +kernel) (by decide +kernel), mT8 154 (by decide +kernel) (by decide +kernel), mT8 156 (by decide +kernel) (by decide +kernel), mT8 158 (by decide +kernel) (by decide +kernel), mT8 160 (by decide +kernel) (by decide +kernel), mT8 162 (by decide +kernel) (by decide +kernel), mT8 164 (by decide +kernel) (by decide +kernel), mT8 166 (by decide +kernel) (by decide +kernel), mT8 168 (by decide +kernel) (by decide +kernel), mT8 170 (by decide +kernel) (by decide +kernel), mT8 172 (by decide +kernel) (by decide +kernel), fun _ h => absurd h List.not_mem_nil⟩
theorem kc_Md : KC 9 R_Md T_Md 26 ty_Md := ⟨rfl, in_Md, tk_Md, nm_Md⟩
theorem sh_0 : shp 0 = .inl (8, [some 1, some 3, some 23, some 42, some 61, some 66, some 73, none, none]) := rfl
theorem sh_1 : shp 1 = .inl (6, [some 2, none]) := rfl
theorem sh_2 : shp 2 = .inr (1, 400) := rfl
theorem sh_3 : shp 3 = .inl (3, [some 1, some 4, none, none, none, none, none, none]) := rfl
theorem sh_4 : shp 4 = .inl (0, [none, none, none, none, none, none, none, none, none, none, none, none, none, none, some 5, some 6, some 10, some 14]) := rfl
theorem sh_5 : shp 5 = .inr (0, 8) := rfl
theorem sh_6 : shp 6 = .inl (5, [none, some 7, some 8, some 9]) := rfl
theorem sh_7 : shp 7 = .inr (0, 4) := rfl
theorem sh_8 : shp 8 = .inr (0, 4) := rfl
theorem sh_9 : shp 9 = .inr (0, 4) := rfl
theorem sh_10 : shp 10 = .inl (5, [none, some 11, some 12, some 13]) := rfl
theorem sh_11 : shp 11 = .inr (0, 4) := rfl
theorem sh_12 : shp 12 = .inr (0, 4) := rfl
theorem sh_13 : shp 13 = .inr (0, 4) := rfl
theorem sh_14 : shp 14 = .inl (1, [none, some 15, some 16, some 17, some 18, some 19, some 20, some 21, some 22]) := rfl
theorem sh_15 : shp 15 = .inr (0, 12) := rfl
theorem sh_16 : shp 16 = .inr (0, 12) := rfl
theorem sh_17 : shp 17 = .inr (0, 12) := rfl
theorem sh_18 : shp 18 = .inr (0, 12) := rfl
theorem sh_19 : shp 19 = .inr (0, 12) := rfl
theorem sh_20 : shp 20 = .inr (0, 12) := rfl
theorem sh_21 : shp 21 = .inr (0, 12) := rfl
theorem sh_22 : shp 22 = .inr (0, 12) := rfl
theorem sh_23 : shp 23 = .inl (0, [none, none, none, none, none, none, none, none, none, none, none, none, none, none, some 24, some 25, some 29, some 33]) := rfl
theorem sh_24 : shp 24 = .inr (0, 8) := rfl
theorem sh_25 : shp 25 = .inl (5, [none, some 26, some 27, some 28]) := rfl
theorem sh_26 : shp 26 = .inr (0, 4) := rfl
theorem sh_27 : shp 27 = .inr (0, 4) := rfl
theorem sh_28 : shp 28 = .inr (0, 4) := rfl
theorem sh_29 : shp 29 = .inl (5, [none, some 30, some 31, some 32]) := rfl
theorem sh_30 : shp 30 = .inr (0, 4) := rfl
theorem sh_31 : shp 31 = .inr (0, 4) := rfl
theorem sh_32 : shp 32 = .inr (0, 4) := rfl
theorem sh_33 : shp 33 = .inl (1, [none, some 34, some 35, some 36, some 37, some 38, some 39, some 40, some 41]) := rfl
theorem sh_34 : shp 34 = .inr (0, 12) := rfl
theorem sh_35 : shp 35 = .inr (0, 12) := rfl
theorem sh_36 : shp 36 = .inr (0, 12) := rfl
theorem sh_37 : shp 37 = .inr (0, 12) := rfl
theorem sh_38 : shp 38 = .inr (0, 12) := rfl
theorem sh_39 : shp 39 = .inr (0, 12) := rfl
theorem sh_40 : shp 40 = .inr (0, 12) := rfl
theorem sh_41 : shp 41 = .inr (0, 12) := rfl
theorem sh_42 : shp 42 = .inl (0, [none, none, none, none, none, none, none, none, none, none, none, none, none, none, some 43, some 44, some 48, some 52]) := rfl
theorem sh_43 : shp 43 = .inr (0, 8) := rfl
theorem sh_44 : shp 44 = .inl (5, [none, some 45, some 46, some 47]) := rfl
theorem sh_45 : shp 45 = .inr (0, 4) := rfl
theorem sh_46 : shp 46 = .inr (0, 4) := rfl
theorem sh_47 : shp 47 = .inr (0, 4) := rfl
theorem sh_48 : shp 48 = .inl (5, [none, some 49, some 50, some 51]) := rfl
theorem sh_49 : shp 49 = .inr (0, 4) := rfl
theorem sh_50 : shp 50 = .inr (0, 4) := rfl
theorem sh_51 : shp 51 = .inr (0, 4) := rfl
theorem sh_52 : shp 52 = .inl (1, [none, some 53, some 54, some 55, some 56, some 57, some 58, some 59, some 60]) := rfl
theorem sh_53 : shp 53 = .inr (0, 12) := rfl
theorem sh_54 : shp 54 = .inr (0, 12) := rfl
theorem sh_55 : shp 55 = .inr (0, 12) := rfl
theorem sh_56 : shp 56 = .inr (0, 12) := rfl
theorem sh_57 : shp 57 = .inr (0, 12) := rfl
theorem sh_58 : shp 58 = .inr (0, 12) := rfl
theorem sh_59 : shp 59 = .inr (0, 12) := rfl
theorem sh_60 : shp 60 = .inr (0, 12) := rfl
theorem sh_61 : shp 61 = .inl (2, [none, some 62, some 63, some 64, some 65]) := rfl
theorem sh_62 : shp 62 = .inr (0, 8) := rfl
theorem sh_63 : shp 63 = .inr (0, 8) := rfl
theorem sh_64 : shp 64 = .inr (0, 8) := rfl
theorem sh_65 : shp 65 = .inr (0, 8) := rfl
theorem sh_66 : shp 66 = .inl (7, [some 23, some 33, none, none, none, none, some 67, some 68, some 69, some 70, some 71, some 72]) := rfl
theorem sh_67 : shp 67 = .inr (0, 249) := rfl
theorem sh_68 : shp 68 = .inr (0, 249) := rfl
theorem sh_69 : shp 69 = .inr (0, 12) := rfl
theorem sh_70 : shp 70 = .inr (0, 12) := rfl
theorem sh_71 : shp 71 = .inr (0, 12) := rfl
theorem sh_72 : shp 72 = .inr (0, 12) := rfl
theorem sh_73 : shp 73 = .inl (4, [some 23, some 33, some 66, none, some 74, some 75, none, none, some 76, some 77, some 78, some 79, some 80, some 81, some 82]) := rfl
theorem sh_74 : shp 74 = .inr (0, 80) := rfl
theorem sh_75 : shp 75 = .inr (0, 80) := rfl
theorem sh_76 : shp 76 = .inr (0, 960) := rfl
theorem sh_77 : shp 77 = .inr (0, 960) := rfl
theorem sh_78 : shp 78 = .inr (0, 960) := rfl
theorem sh_79 : shp 79 = .inr (0, 80) := rfl
theorem sh_80 : shp 80 = .inr (0, 80) := rfl
theorem sh_81 : shp 81 = .inr (0, 80) := rfl
theorem sh_82 : shp 82 = .inr (0, 11) := rfl
theorem sh_83 : shp 83 = .inl (9, [none, some 84, some 85, none, some 86, none, some 87, none, none, none, none, some 88, none, none, none, none, some 89, some 90, some 91, some 92, some 93, some 94, none, none, none, some 95]) := rfl
theorem sh_84 : shp 84 = .inr (0, 127) := rfl
theorem sh_85 : shp 85 = .inr (0, 1016) := rfl
theorem sh_86 : shp 86 = .inr (0, 127) := rfl
theorem sh_87 : shp 87 = .inr (0, 400) := rfl
theorem sh_88 : shp 88 = .inr (0, 127) := rfl
theorem sh_89 : shp 89 = .inr (0, 12) := rfl
theorem sh_90 : shp 90 = .inr (0, 12) := rfl
theorem sh_91 : shp 91 = .inr (0, 12) := rfl
theorem sh_92 : shp 92 = .inr (0, 260) := rfl
theorem sh_93 : shp 93 = .inr (0, 260) := rfl
theorem sh_94 : shp 94 = .inr (0, 12) := rfl
theorem sh_95 : shp 95 = .inr (2, 5200) := rfl
theorem sh_96 : shp 96 = .inr (3, 1) := rfl
def isBk (B : Nat) : Prop := B = 4 ∨ B = 23 ∨ B = 42
def isFt (F : Nat) : Prop := F = 14 ∨ F = 33 ∨ F = 52
def isSp (P : Nat) : Prop := P = 6 ∨ P = 10 ∨ P = 25 ∨ P = 29 ∨ P = 44 ∨ P = 48
theorem shB_0 {B : Nat} (hB : isBk B) : shp B = .inl (0, [none, none, none, none, none, none, none, none, none, none, none, none, none, none, some (B + 1), some (B + 2), some (B + 6), some (B + 10)]) := by rcases hB with rfl | rfl | rfl <;> rfl
theorem shB_1 {B : Nat} (hB : isBk B) : shp (B + 1) = .inr (0, 8) := by rcases hB with rfl | rfl | rfl <;> rfl
theorem shB_2 {B : Nat} (hB : isBk B) : shp (B + 2) = .inl (5, [none, some (B + 3), some (B + 4), some (B + 5)]) := by rcases hB with rfl | rfl | rfl <;> rfl
theorem shB_3 {B : Nat} (hB : isBk B) : shp (B + 3) = .inr (0, 4) := by rcases hB with rfl | rfl | rfl <;> rfl
theorem shB_4 {B : Nat} (hB : isBk B) : shp (B + 4) = .inr (0, 4) := by rcases hB with rfl | rfl | rfl <;> rfl
theorem shB_5 {B : Nat} (hB : isBk B) : shp (B + 5) = .inr (0, 4) := by rcases hB with rfl | rfl | rfl <;> rfl
theorem shB_6 {B : Nat} (hB : isBk B) : shp (B + 6) = .inl (5, [none, some (B + 7), some (B + 8), some (B + 9)]) := by rcases hB with rfl | rfl | rfl <;> rfl
theorem shB_7 {B : Nat} (hB : isBk B) : shp (B + 7) = .inr (0, 4) := by rcases hB with rfl | rfl | rfl <;> rfl
theorem shB_8 {B : Nat} (hB : isBk B) : shp (B + 8) = .inr (0, 4) := by rcases hB with rfl | rfl | rfl <;> rfl
theorem shB_9 {B : Nat} (hB : isBk B) : shp (B + 9) = .inr (0, 4) := by rcases hB with rfl | rfl | rfl <;> rfl
theorem shB_10 {B : Nat} (hB : isBk B) : shp (B + 10) = .inl (1, [none, some (B + 11), some (B + 12), some (B + 13), some (B + 14), some (B + 15), some (B + 16), some (B + 17), some (B + 18)]) := by rcases hB with rfl | rfl | rfl <;> rfl
theorem shB_11 {B : Nat} (hB : isBk B) : shp (B + 11) = .inr (0, 12) := by rcases hB with rfl | rfl | rfl <;> rfl
theorem shB_12 {B : Nat} (hB : isBk B) : shp (B + 12) = .inr (0, 12) := by rcases hB with rfl | rfl | rfl <;> rfl
theorem shB_13 {B : Nat} (hB : isBk B) : shp (B + 13) = .inr (0, 12) := by rcases hB with rfl | rfl | rfl <;> rfl
theorem shB_14 {B : Nat} (hB : isBk B) : shp (B + 14) = .inr (0, 12) := by rcases hB with rfl | rfl | rfl <;> rfl
theorem shB_15 {B : Nat} (hB : isBk B) : shp (B + 15) = .inr (0, 12) := by rcases hB with rfl | rfl | rfl <;> rfl
theorem shB_16 {B : Nat} (hB : isBk B) : shp (B + 16) = .inr (0, 12) := by rcases hB with rfl | rfl | rfl <;> rfl
theorem shB_17 {B : Nat} (hB : isBk B) : shp (B + 17) = .inr (0, 12) := by rcases hB with rfl | rfl | rfl <;> rfl
theorem shB_18 {B : Nat} (hB : isBk B) : shp (B + 18) = .inr (0, 12) := by rcases hB with rfl | rfl | rfl <;> rfl
theorem ltB {B : Nat} (hB : isBk B) (k : Nat) (hk : k < 19) : B + k < 97 := by rcases hB with rfl | rfl | rfl <;> omega
theorem ltB0 {B : Nat} (hB : isBk B) : B < 97 := ltB hB 0 (by omega)
theorem shF_0 {F : Nat} (hF : isFt F) : shp F = .inl (1, [none, some (F + 1), some (F + 2), some (F + 3), some (F + 4), some (F + 5), some (F + 6), some (F + 7), some (F + 8)]) := by rcases hF with rfl | rfl | rfl <;> rfl
theorem shF_1 {F : Nat} (hF : isFt F) : shp (F + 1) = .inr (0, 12) := by rcases hF with rfl | rfl | rfl <;> rfl
theorem shF_2 {F : Nat} (hF : isFt F) : shp (F + 2) = .inr (0, 12) := by rcases hF with rfl | rfl | rfl <;> rfl
theorem shF_3 {F : Nat} (hF : isFt F) : shp (F + 3) = .inr (0, 12) := by rcases hF with rfl | rfl | rfl <;> rfl
theorem shF_4 {F : Nat} (hF : isFt F) : shp (F + 4) = .inr (0, 12) := by rcases hF with rfl | rfl | rfl <;> rfl
theorem shF_5 {F : Nat} (hF : isFt F) : shp (F + 5) = .inr (0, 12) := by rcases hF with rfl | rfl | rfl <;> rfl
theorem shF_6 {F : Nat} (hF : isFt F) : shp (F + 6) = .inr (0, 12) := by rcases hF with rfl | rfl | rfl <;> rfl
theorem shF_7 {F : Nat} (hF : isFt F) : shp (F + 7) = .inr (0, 12) := by rcases hF with rfl | rfl | rfl <;> rfl
theorem shF_8 {F : Nat} (hF : isFt F) : shp (F + 8) = .inr (0, 12) := by rcases hF with rfl | rfl | rfl <;> rfl
theorem ltF {F : Nat} (hF : isFt F) (k : Nat) (hk : k < 9) : F + k < 97 := by rcases hF with rfl | rfl | rfl <;> omega
theorem ltF0 {F : Nat} (hF : isFt F) : F < 97 := ltF hF 0 (by omega)
theorem shP_0 {P : Nat} (hP : isSp P) : shp P = .inl (5, [none, some (P + 1), some (P + 2), some (P + 3)]) := by rcases hP with rfl | rfl | rfl | rfl | rfl | rfl <;> rfl
theorem shP_1 {P : Nat} (hP : isSp P) : shp (P + 1) = .inr (0, 4) := by rcases hP with rfl | rfl | rfl | rfl | rfl | rfl <;> rfl
theorem shP_2 {P : Nat} (hP : isSp P) : shp (P + 2) = .inr (0, 4) := by rcases hP with rfl | rfl | rfl | rfl | rfl | rfl <;> rfl
theorem shP_3 {P : Nat} (hP : isSp P) : shp (P + 3) = .inr (0, 4) := by rcases hP with rfl | rfl | rfl | rfl | rfl | rfl <;> rfl
theorem ltP {P : Nat} (hP : isSp P) (k : Nat) (hk : k < 4) : P + k < 97 := by rcases hP with rfl | rfl | rfl | rfl | rfl | rfl <;> omega
theorem ltP0 {P : Nat} (hP : isSp P) : P < 97 := ltP hP 0 (by omega)

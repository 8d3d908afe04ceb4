section MR
variable {p : Program} {l : Launch} {e : Env} {R : Room} {s : State} {m : MethodId} {args : Array Value} {below : List Frame} {meth : Method} {c : Code} {H : Heap} {locs : List Loc} {cells slots : Nat} {Q : State → Prop}
variable {cc : ByteArray} {nL pc : Nat} {ls : Array Slot} {rest : List Value} {own : String} {D : va_G} {ad : Nat → Nat} {cA : Nat → ClassId} {sd sv : Nat → Nat} {A : Nat → Prop} {h : Hp}
/-- what holds all through a method's body -/
def Cx (p : Program) (s : State) (m : MethodId) (args : Array Value) (c : Code) (cc : ByteArray) (nL : Nat) (own : String) (D : va_G) (ad : Nat → Nat) (cA : Nat → ClassId) (sd sv : Nat → Nat) (A : Nat → Prop) : Prop :=
  p.tables.exec = Jvm.exec ∧ c.code = cc ∧ c.maxLocals = nL ∧ s.vm.findClass own = some m.cls ∧ (∀ w ∈ TT, w.before args s = true) ∧ va_K D clL (tyL cA) s ∧ Apt A ad ∧ EV sd sv A s s.heap
/-- the world now -/
def Wd (s : State) (D : va_G) (ad : Nat → Nat) (cA : Nat → ClassId) (A : Nat → Prop) (h : Hp) (H : Heap) (locs : List Loc) : Prop := va_P D clL (wl ad cA h) H ∧ va_S A s.heap H locs
theorem m_iconst (C : Cx p s m args c cc nL own D ad cA sd sv A) {n : Int} (d : decode cc pc = .ok (.iconst n, 1)) (k : W p l e R s m args below meth c H locs cells slots Q (F0 m (pc + 1) ls (.int (iZ n) :: rest))) : W p l e R s m args below meth c H locs cells slots Q (F0 m pc ls rest) := lv_iconst C.1 C.2.1 d rfl k
theorem m_bipush (C : Cx p s m args c cc nL own D ad cA sd sv A) {n : Int} (d : decode cc pc = .ok (.bipush n, 2)) (hv : (Int8.ofInt n).toInt32 = iZ n) (k : W p l e R s m args below meth c H locs cells slots Q (F0 m (pc + 2) ls (.int (iZ n) :: rest))) : W p l e R s m args below meth c H locs cells slots Q (F0 m pc ls rest) := lv_bipush C.1 C.2.1 d hv k
theorem m_sipush (C : Cx p s m args c cc nL own D ad cA sd sv A) {n : Int} (d : decode cc pc = .ok (.sipush n, 3)) (hv : (Int16.ofInt n).toInt32 = iZ n) (k : W p l e R s m args below meth c H locs cells slots Q (F0 m (pc + 3) ls (.int (iZ n) :: rest))) : W p l e R s m args below meth c H locs cells slots Q (F0 m pc ls rest) := lv_sipush C.1 C.2.1 d hv k
theorem m_iload_n (C : Cx p s m args c cc nL own D ad cA sd sv A) {lv : List (Nat × Value)} {k : Fin 4} {i : Nat} {x : Int} (hl : lv_has ls nL lv) (q : Nat) (d : decode cc pc = .ok (.iload_n k, 1)) (hi : (k : Nat) = i) (hq : lv[q]? = some (i, .int (iZ x))) (kk : W p l e R s m args below meth c H locs cells slots Q (F0 m (pc + 1) ls (.int (iZ x) :: rest))) : W p l e R s m args below meth c H locs cells slots Q (F0 m pc ls rest) := lv_iload_n C.1 C.2.1 d hi (lv_at hl q hq) kk
theorem m_iload (C : Cx p s m args c cc nL own D ad cA sd sv A) {lv : List (Nat × Value)} {i : Nat} {x : Int} (hl : lv_has ls nL lv) (q : Nat) (d : decode cc pc = .ok (.iload i, 2)) (hq : lv[q]? = some (i, .int (iZ x))) (kk : W p l e R s m args below meth c H locs cells slots Q (F0 m (pc + 2) ls (.int (iZ x) :: rest))) : W p l e R s m args below meth c H locs cells slots Q (F0 m pc ls rest) := lv_iload C.1 C.2.1 d (lv_at hl q hq) kk
theorem m_istore_n (C : Cx p s m args c cc nL own D ad cA sd sv A) {lv : List (Nat × Value)} {k : Fin 4} {i : Nat} {x : Int} (hl : lv_has ls nL lv) (lv2 : List (Nat × Value)) (d : decode cc pc = .ok (.istore_n k, 1)) (hi : (k : Nat) = i) (hn : i < nL) (hq : (i, Value.int (iZ x)) :: lv.filter (fun q => !(q.1 == i) && !(q.1 + 1 == i && q.2.category == 2)) = lv2) (kk : ∀ ls : Array Slot, lv_has ls nL lv2 → W p l e R s m args below meth c H locs cells slots Q (F0 m (pc + 1) ls rest)) : W p l e R s m args below meth c H locs cells slots Q (F0 m pc ls (.int (iZ x) :: rest)) := lv_istore_n C.1 C.2.1 d hi hl hn hq kk
theorem m_istore (C : Cx p s m args c cc nL own D ad cA sd sv A) {lv : List (Nat × Value)} {i : Nat} {x : Int} (hl : lv_has ls nL lv) (lv2 : List (Nat × Value)) (d : decode cc pc = .ok (.istore i, 2)) (hn : i < nL) (hq : (i, Value.int (iZ x)) :: lv.filter (fun q => !(q.1 == i) && !(q.1 + 1 == i && q.2.category == 2)) = lv2) (kk : ∀ ls : Array Slot, lv_has ls nL lv2 → W p l e R s m args below meth c H locs cells slots Q (F0 m (pc + 2) ls rest)) : W p l e R s m args below meth c H locs cells slots Q (F0 m pc ls (.int (iZ x) :: rest)) := lv_istore C.1 C.2.1 d hl hn hq kk
theorem m_aload_n (C : Cx p s m args c cc nL own D ad cA sd sv A) {lv : List (Nat × Value)} {k : Fin 4} {i : Nat} {x : Nat} (hl : lv_has ls nL lv) (q : Nat) (d : decode cc pc = .ok (.aload_n k, 1)) (hi : (k : Nat) = i) (hq : lv[q]? = some (i, .ref x)) (kk : W p l e R s m args below meth c H locs cells slots Q (F0 m (pc + 1) ls (.ref x :: rest))) : W p l e R s m args below meth c H locs cells slots Q (F0 m pc ls rest) := lv_aload_n C.1 C.2.1 d hi (lv_at hl q hq) kk
theorem m_aload (C : Cx p s m args c cc nL own D ad cA sd sv A) {lv : List (Nat × Value)} {i : Nat} {x : Nat} (hl : lv_has ls nL lv) (q : Nat) (d : decode cc pc = .ok (.aload i, 2)) (hq : lv[q]? = some (i, .ref x)) (kk : W p l e R s m args below meth c H locs cells slots Q (F0 m (pc + 2) ls (.ref x :: rest))) : W p l e R s m args below meth c H locs cells slots Q (F0 m pc ls rest) := lv_aload C.1 C.2.1 d (lv_at hl q hq) kk
theorem m_astore_n (C : Cx p s m args c cc nL own D ad cA sd sv A) {lv : List (Nat × Value)} {k : Fin 4} {i : Nat} {x : Nat} (hl : lv_has ls nL lv) (lv2 : List (Nat × Value)) (d : decode cc pc = .ok (.astore_n k, 1)) (hi : (k : Nat) = i) (hn : i < nL) (hq : (i, Value.ref x) :: lv.filter (fun q => !(q.1 == i) && !(q.1 + 1 == i && q.2.category == 2)) = lv2) (kk : ∀ ls : Array Slot, lv_has ls nL lv2 → W p l e R s m args below meth c H locs cells slots Q (F0 m (pc + 1) ls rest)) : W p l e R s m args below meth c H locs cells slots Q (F0 m pc ls (.ref x :: rest)) := lv_astore_n C.1 C.2.1 d hi hl hn hq kk
theorem m_astore (C : Cx p s m args c cc nL own D ad cA sd sv A) {lv : List (Nat × Value)} {i : Nat} {x : Nat} (hl : lv_has ls nL lv) (lv2 : List (Nat × Value)) (d : decode cc pc = .ok (.astore i, 2)) (hn : i < nL) (hq : (i, Value.ref x) :: lv.filter (fun q => !(q.1 == i) && !(q.1 + 1 == i && q.2.category == 2)) = lv2) (kk : ∀ ls : Array Slot, lv_has ls nL lv2 → W p l e R s m args below meth c H locs cells slots Q (F0 m (pc + 2) ls rest)) : W p l e R s m args below meth c H locs cells slots Q (F0 m pc ls (.ref x :: rest)) := lv_astore C.1 C.2.1 d hl hn hq kk
theorem m_iinc (C : Cx p s m args c cc nL own D ad cA sd sv A) {lv : List (Nat × Value)} {i : Nat} {n x : Int} (hl : lv_has ls nL lv) (q : Nat) (lv2 : List (Nat × Value)) (d : decode cc pc = .ok (.iinc i n, 3)) (hq0 : lv[q]? = some (i, .int (iZ x))) (hn : i < nL) (hq : (i, Value.int (iZ (x + n))) :: lv.filter (fun q => !(q.1 == i) && !(q.1 + 1 == i && q.2.category == 2)) = lv2) (kk : ∀ ls : Array Slot, lv_has ls nL lv2 → W p l e R s m args below meth c H locs cells slots Q (F0 m (pc + 3) ls rest)) : W p l e R s m args below meth c H locs cells slots Q (F0 m pc ls rest) := lv_iinc C.1 C.2.1 d hl hq0 (iZ_add x n) hn hq kk
theorem m_iadd (C : Cx p s m args c cc nL own D ad cA sd sv A) {a b : Int} (d : decode cc pc = .ok (.iadd, 1)) (k : W p l e R s m args below meth c H locs cells slots Q (F0 m (pc + 1) ls (.int (iZ (a + b)) :: rest))) : W p l e R s m args below meth c H locs cells slots Q (F0 m pc ls (.int (iZ b) :: .int (iZ a) :: rest)) := lv_iadd C.1 C.2.1 d (by rw [iZ_add]; exact k)
theorem m_isub (C : Cx p s m args c cc nL own D ad cA sd sv A) {a b : Int} (d : decode cc pc = .ok (.isub, 1)) (k : W p l e R s m args below meth c H locs cells slots Q (F0 m (pc + 1) ls (.int (iZ (a - b)) :: rest))) : W p l e R s m args below meth c H locs cells slots Q (F0 m pc ls (.int (iZ b) :: .int (iZ a) :: rest)) := lv_isub C.1 C.2.1 d (by rw [iZ_sub]; exact k)
theorem m_imul (C : Cx p s m args c cc nL own D ad cA sd sv A) {a b : Int} (d : decode cc pc = .ok (.imul, 1)) (k : W p l e R s m args below meth c H locs cells slots Q (F0 m (pc + 1) ls (.int (iZ (a * b)) :: rest))) : W p l e R s m args below meth c H locs cells slots Q (F0 m pc ls (.int (iZ b) :: .int (iZ a) :: rest)) := lv_imul C.1 C.2.1 d (by rw [iZ_mul]; exact k)
theorem m_iand (C : Cx p s m args c cc nL own D ad cA sd sv A) {a b : Int} (d : decode cc pc = .ok (.iand, 1)) (k : W p l e R s m args below meth c H locs cells slots Q (F0 m (pc + 1) ls (.int (iZ (andI a b)) :: rest))) : W p l e R s m args below meth c H locs cells slots Q (F0 m pc ls (.int (iZ b) :: .int (iZ a) :: rest)) := lv_iand C.1 C.2.1 d (by rw [← iZ_toInt (iZ a &&& iZ b)]; exact k)
theorem m_ior (C : Cx p s m args c cc nL own D ad cA sd sv A) {a b : Int} (d : decode cc pc = .ok (.ior, 1)) (k : W p l e R s m args below meth c H locs cells slots Q (F0 m (pc + 1) ls (.int (iZ (orI a b)) :: rest))) : W p l e R s m args below meth c H locs cells slots Q (F0 m pc ls (.int (iZ b) :: .int (iZ a) :: rest)) := lv_ior C.1 C.2.1 d (by rw [← iZ_toInt (iZ a ||| iZ b)]; exact k)
theorem m_ixor (C : Cx p s m args c cc nL own D ad cA sd sv A) {a b : Int} (d : decode cc pc = .ok (.ixor, 1)) (k : W p l e R s m args below meth c H locs cells slots Q (F0 m (pc + 1) ls (.int (iZ (xorI a b)) :: rest))) : W p l e R s m args below meth c H locs cells slots Q (F0 m pc ls (.int (iZ b) :: .int (iZ a) :: rest)) := lv_ixor C.1 C.2.1 d (by rw [← iZ_toInt (iZ a ^^^ iZ b)]; exact k)
theorem m_ishl (C : Cx p s m args c cc nL own D ad cA sd sv A) {a b : Int} (d : decode cc pc = .ok (.ishl, 1)) (k : W p l e R s m args below meth c H locs cells slots Q (F0 m (pc + 1) ls (.int (iZ (shlI a b)) :: rest))) : W p l e R s m args below meth c H locs cells slots Q (F0 m pc ls (.int (iZ b) :: .int (iZ a) :: rest)) := lv_ishl C.1 C.2.1 d (by rw [← iZ_toInt (iZ a <<< (iZ b &&& 31))]; exact k)
theorem m_ishr (C : Cx p s m args c cc nL own D ad cA sd sv A) {a b : Int} (d : decode cc pc = .ok (.ishr, 1)) (k : W p l e R s m args below meth c H locs cells slots Q (F0 m (pc + 1) ls (.int (iZ (shrI a b)) :: rest))) : W p l e R s m args below meth c H locs cells slots Q (F0 m pc ls (.int (iZ b) :: .int (iZ a) :: rest)) := lv_ishr C.1 C.2.1 d (by rw [← iZ_toInt (iZ a >>> (iZ b &&& 31))]; exact k)
theorem m_iushr (C : Cx p s m args c cc nL own D ad cA sd sv A) {a b : Int} (d : decode cc pc = .ok (.iushr, 1)) (k : W p l e R s m args below meth c H locs cells slots Q (F0 m (pc + 1) ls (.int (iZ (ushrI a b)) :: rest))) : W p l e R s m args below meth c H locs cells slots Q (F0 m pc ls (.int (iZ b) :: .int (iZ a) :: rest)) := lv_iushr C.1 C.2.1 d (iZ_toInt _).symm k
theorem m_ineg (C : Cx p s m args c cc nL own D ad cA sd sv A) {a : Int} (d : decode cc pc = .ok (.ineg, 1)) (k : W p l e R s m args below meth c H locs cells slots Q (F0 m (pc + 1) ls (.int (iZ (-a)) :: rest))) : W p l e R s m args below meth c H locs cells slots Q (F0 m pc ls (.int (iZ a) :: rest)) := lv_ineg C.1 C.2.1 d (by rw [iZ_neg]; exact k)
theorem m_i2b (C : Cx p s m args c cc nL own D ad cA sd sv A) {a : Int} (d : decode cc pc = .ok (.i2b, 1)) (k : W p l e R s m args below meth c H locs cells slots Q (F0 m (pc + 1) ls (.int (iZ (i2bI a)) :: rest))) : W p l e R s m args below meth c H locs cells slots Q (F0 m pc ls (.int (iZ a) :: rest)) := lv_i2b C.1 C.2.1 d (iZ_toInt _).symm k
theorem m_idiv (C : Cx p s m args c cc nL own D ad cA sd sv A) {a b : Int} {α : Type} {out : α} {f : Int → Option α} (hM : (dvI a b).bind f = some out) (d : decode cc pc = .ok (.idiv, 1)) (k : ∀ r : Int, f r = some out → W p l e R s m args below meth c H locs cells slots Q (F0 m (pc + 1) ls (.int (iZ r) :: rest))) : W p l e R s m args below meth c H locs cells slots Q (F0 m pc ls (.int (iZ b) :: .int (iZ a) :: rest)) := by
  unfold dvI at hM
  by_cases hb : iZ b = 0
  · rw [if_pos hb] at hM; cases hM
  · rw [if_neg hb] at hM
    refine lv_idiv C.1 C.2.1 d hb ?_
    have := k _ hM
    rwa [iZ_toInt] at this
theorem m_irem (C : Cx p s m args c cc nL own D ad cA sd sv A) {a b : Int} {α : Type} {out : α} {f : Int → Option α} (hM : (rmI a b).bind f = some out) (d : decode cc pc = .ok (.irem, 1)) (k : ∀ r : Int, f r = some out → W p l e R s m args below meth c H locs cells slots Q (F0 m (pc + 1) ls (.int (iZ r) :: rest))) : W p l e R s m args below meth c H locs cells slots Q (F0 m pc ls (.int (iZ b) :: .int (iZ a) :: rest)) := by
  unfold rmI at hM
  by_cases hb : iZ b = 0
  · rw [if_pos hb] at hM; cases hM
  · rw [if_neg hb] at hM
    refine lv_irem C.1 C.2.1 d hb ?_
    have := k _ hM
    rwa [iZ_toInt] at this
theorem m_dup (C : Cx p s m args c cc nL own D ad cA sd sv A) {va : Value} (d : decode cc pc = .ok (.dup, 1)) (hv : va.category = 1) (k : W p l e R s m args below meth c H locs cells slots Q (F0 m (pc + 1) ls (va :: va :: rest))) : W p l e R s m args below meth c H locs cells slots Q (F0 m pc ls (va :: rest)) := lv_dup C.1 C.2.1 d hv k
theorem m_pop (C : Cx p s m args c cc nL own D ad cA sd sv A) {va : Value} (d : decode cc pc = .ok (.pop, 1)) (hv : va.category = 1) (k : W p l e R s m args below meth c H locs cells slots Q (F0 m (pc + 1) ls rest)) : W p l e R s m args below meth c H locs cells slots Q (F0 m pc ls (va :: rest)) := lv_pop C.1 C.2.1 d hv k
theorem m_dup_x1 (C : Cx p s m args c cc nL own D ad cA sd sv A) {va vb : Value} (d : decode cc pc = .ok (.dup_x1, 1)) (hv : va.category = 1) (hv2 : vb.category = 1) (k : W p l e R s m args below meth c H locs cells slots Q (F0 m (pc + 1) ls (va :: vb :: va :: rest))) : W p l e R s m args below meth c H locs cells slots Q (F0 m pc ls (va :: vb :: rest)) := lv_dup_x1 C.1 C.2.1 d hv hv2 k
theorem m_dup2 (C : Cx p s m args c cc nL own D ad cA sd sv A) {va vb : Value} (d : decode cc pc = .ok (.dup2, 1)) (hv : va.category = 1) (hv2 : vb.category = 1) (k : W p l e R s m args below meth c H locs cells slots Q (F0 m (pc + 1) ls (va :: vb :: va :: vb :: rest))) : W p l e R s m args below meth c H locs cells slots Q (F0 m pc ls (va :: vb :: rest)) := lv_dup2_11 C.1 C.2.1 d hv hv2 k
theorem m_icmp_eq (C : Cx p s m args c cc nL own D ad cA sd sv A) {a b : Int} {α : Type} {out : α} {off : Int} {x y : Option α} (hM : (if eqb a b then x else y) = some out) (tgt : Nat) (d : decode cc pc = .ok (.if_icmp .eq off, 3)) (ht : (pc : Int) + off = (tgt : Int)) (kt : x = some out → W p l e R s m args below meth c H locs cells slots Q (F0 m tgt ls rest)) (kf : y = some out → W p l e R s m args below meth c H locs cells slots Q (F0 m (pc + 3) ls rest)) : W p l e R s m args below meth c H locs cells slots Q (F0 m pc ls (.int (iZ b) :: .int (iZ a) :: rest)) := by
  refine lv_icmp_eq C.1 C.2.1 d ht (fun hc => kt ?_) (fun hc => kf ?_)
  · rwa [if_pos (show eqb a b = true from decide_eq_true hc)] at hM
  · rwa [if_neg (show ¬ eqb a b = true from fun z => hc (of_decide_eq_true z))] at hM
theorem m_if_eq (C : Cx p s m args c cc nL own D ad cA sd sv A) {a : Int} {α : Type} {out : α} {off : Int} {x y : Option α} (hM : (if eqb a 0 then x else y) = some out) (tgt : Nat) (d : decode cc pc = .ok (.ifCond .eq off, 3)) (ht : (pc : Int) + off = (tgt : Int)) (kt : x = some out → W p l e R s m args below meth c H locs cells slots Q (F0 m tgt ls rest)) (kf : y = some out → W p l e R s m args below meth c H locs cells slots Q (F0 m (pc + 3) ls rest)) : W p l e R s m args below meth c H locs cells slots Q (F0 m pc ls (.int (iZ a) :: rest)) := by
  refine lv_if_eq C.1 C.2.1 d ht (fun hc => kt ?_) (fun hc => kf ?_)
  · rwa [if_pos (show eqb a 0 = true from decide_eq_true hc)] at hM
  · rwa [if_neg (show ¬ eqb a 0 = true from fun z => hc (of_decide_eq_true z))] at hM
theorem m_icmp_ne (C : Cx p s m args c cc nL own D ad cA sd sv A) {a b : Int} {α : Type} {out : α} {off : Int} {x y : Option α} (hM : (if eqb a b then x else y) = some out) (tgt : Nat) (d : decode cc pc = .ok (.if_icmp .ne off, 3)) (ht : (pc : Int) + off = (tgt : Int)) (kt : y = some out → W p l e R s m args below meth c H locs cells slots Q (F0 m tgt ls rest)) (kf : x = some out → W p l e R s m args below meth c H locs cells slots Q (F0 m (pc + 3) ls rest)) : W p l e R s m args below meth c H locs cells slots Q (F0 m pc ls (.int (iZ b) :: .int (iZ a) :: rest)) := by
  refine lv_icmp_ne C.1 C.2.1 d ht (fun hc => kt ?_) (fun hc => kf ?_)
  · rwa [if_neg (show ¬ eqb a b = true from fun z => hc (of_decide_eq_true z))] at hM
  · rwa [if_pos (show eqb a b = true from decide_eq_true hc)] at hM
theorem m_if_ne (C : Cx p s m args c cc nL own D ad cA sd sv A) {a : Int} {α : Type} {out : α} {off : Int} {x y : Option α} (hM : (if eqb a 0 then x else y) = some out) (tgt : Nat) (d : decode cc pc = .ok (.ifCond .ne off, 3)) (ht : (pc : Int) + off = (tgt : Int)) (kt : y = some out → W p l e R s m args below meth c H locs cells slots Q (F0 m tgt ls rest)) (kf : x = some out → W p l e R s m args below meth c H locs cells slots Q (F0 m (pc + 3) ls rest)) : W p l e R s m args below meth c H locs cells slots Q (F0 m pc ls (.int (iZ a) :: rest)) := by
  refine lv_if_ne C.1 C.2.1 d ht (fun hc => kt ?_) (fun hc => kf ?_)
  · rwa [if_neg (show ¬ eqb a 0 = true from fun z => hc (of_decide_eq_true z))] at hM
  · rwa [if_pos (show eqb a 0 = true from decide_eq_true hc)] at hM
theorem m_icmp_lt (C : Cx p s m args c cc nL own D ad cA sd sv A) {a b : Int} {α : Type} {out : α} {off : Int} {x y : Option α} (hM : (if ltb a b then x else y) = some out) (tgt : Nat) (d : decode cc pc = .ok (.if_icmp .lt off, 3)) (ht : (pc : Int) + off = (tgt : Int)) (kt : x = some out → W p l e R s m args below meth c H locs cells slots Q (F0 m tgt ls rest)) (kf : y = some out → W p l e R s m args below meth c H locs cells slots Q (F0 m (pc + 3) ls rest)) : W p l e R s m args below meth c H locs cells slots Q (F0 m pc ls (.int (iZ b) :: .int (iZ a) :: rest)) := by
  refine lv_icmp_lt C.1 C.2.1 d ht (fun hc => kt ?_) (fun hc => kf ?_)
  · rwa [if_pos (show ltb a b = true from decide_eq_true hc)] at hM
  · rwa [if_neg (show ¬ ltb a b = true from fun z => hc (of_decide_eq_true z))] at hM
theorem m_if_lt (C : Cx p s m args c cc nL own D ad cA sd sv A) {a : Int} {α : Type} {out : α} {off : Int} {x y : Option α} (hM : (if ltb a 0 then x else y) = some out) (tgt : Nat) (d : decode cc pc = .ok (.ifCond .lt off, 3)) (ht : (pc : Int) + off = (tgt : Int)) (kt : x = some out → W p l e R s m args below meth c H locs cells slots Q (F0 m tgt ls rest)) (kf : y = some out → W p l e R s m args below meth c H locs cells slots Q (F0 m (pc + 3) ls rest)) : W p l e R s m args below meth c H locs cells slots Q (F0 m pc ls (.int (iZ a) :: rest)) := by
  refine lv_if_lt C.1 C.2.1 d ht (fun hc => kt ?_) (fun hc => kf ?_)
  · rwa [if_pos (show ltb a 0 = true from decide_eq_true hc)] at hM
  · rwa [if_neg (show ¬ ltb a 0 = true from fun z => hc (of_decide_eq_true z))] at hM
theorem m_icmp_ge (C : Cx p s m args c cc nL own D ad cA sd sv A) {a b : Int} {α : Type} {out : α} {off : Int} {x y : Option α} (hM : (if leb b a then x else y) = some out) (tgt : Nat) (d : decode cc pc = .ok (.if_icmp .ge off, 3)) (ht : (pc : Int) + off = (tgt : Int)) (kt : x = some out → W p l e R s m args below meth c H locs cells slots Q (F0 m tgt ls rest)) (kf : y = some out → W p l e R s m args below meth c H locs cells slots Q (F0 m (pc + 3) ls rest)) : W p l e R s m args below meth c H locs cells slots Q (F0 m pc ls (.int (iZ b) :: .int (iZ a) :: rest)) := by
  refine lv_icmp_ge C.1 C.2.1 d ht (fun hc => kt ?_) (fun hc => kf ?_)
  · rwa [if_pos (show leb b a = true from decide_eq_true hc)] at hM
  · rwa [if_neg (show ¬ leb b a = true from fun z => hc (of_decide_eq_true z))] at hM
theorem m_if_ge (C : Cx p s m args c cc nL own D ad cA sd sv A) {a : Int} {α : Type} {out : α} {off : Int} {x y : Option α} (hM : (if leb 0 a then x else y) = some out) (tgt : Nat) (d : decode cc pc = .ok (.ifCond .ge off, 3)) (ht : (pc : Int) + off = (tgt : Int)) (kt : x = some out → W p l e R s m args below meth c H locs cells slots Q (F0 m tgt ls rest)) (kf : y = some out → W p l e R s m args below meth c H locs cells slots Q (F0 m (pc + 3) ls rest)) : W p l e R s m args below meth c H locs cells slots Q (F0 m pc ls (.int (iZ a) :: rest)) := by
  refine lv_if_ge C.1 C.2.1 d ht (fun hc => kt ?_) (fun hc => kf ?_)
  · rwa [if_pos (show leb 0 a = true from decide_eq_true hc)] at hM
  · rwa [if_neg (show ¬ leb 0 a = true from fun z => hc (of_decide_eq_true z))] at hM
theorem m_icmp_gt (C : Cx p s m args c cc nL own D ad cA sd sv A) {a b : Int} {α : Type} {out : α} {off : Int} {x y : Option α} (hM : (if ltb b a then x else y) = some out) (tgt : Nat) (d : decode cc pc = .ok (.if_icmp .gt off, 3)) (ht : (pc : Int) + off = (tgt : Int)) (kt : x = some out → W p l e R s m args below meth c H locs cells slots Q (F0 m tgt ls rest)) (kf : y = some out → W p l e R s m args below meth c H locs cells slots Q (F0 m (pc + 3) ls rest)) : W p l e R s m args below meth c H locs cells slots Q (F0 m pc ls (.int (iZ b) :: .int (iZ a) :: rest)) := by
  refine lv_icmp_gt C.1 C.2.1 d ht (fun hc => kt ?_) (fun hc => kf ?_)
  · rwa [if_pos (show ltb b a = true from decide_eq_true hc)] at hM
  · rwa [if_neg (show ¬ ltb b a = true from fun z => hc (of_decide_eq_true z))] at hM
theorem m_if_gt (C : Cx p s m args c cc nL own D ad cA sd sv A) {a : Int} {α : Type} {out : α} {off : Int} {x y : Option α} (hM : (if ltb 0 a then x else y) = some out) (tgt : Nat) (d : decode cc pc = .ok (.ifCond .gt off, 3)) (ht : (pc : Int) + off = (tgt : Int)) (kt : x = some out → W p l e R s m args below meth c H locs cells slots Q (F0 m tgt ls rest)) (kf : y = some out → W p l e R s m args below meth c H locs cells slots Q (F0 m (pc + 3) ls rest)) : W p l e R s m args below meth c H locs cells slots Q (F0 m pc ls (.int (iZ a) :: rest)) := by
  refine lv_if_gt C.1 C.2.1 d ht (fun hc => kt ?_) (fun hc => kf ?_)
  · rwa [if_pos (show ltb 0 a = true from decide_eq_true hc)] at hM
  · rwa [if_neg (show ¬ ltb 0 a = true from fun z => hc (of_decide_eq_true z))] at hM
theorem m_icmp_le (C : Cx p s m args c cc nL own D ad cA sd sv A) {a b : Int} {α : Type} {out : α} {off : Int} {x y : Option α} (hM : (if leb a b then x else y) = some out) (tgt : Nat) (d : decode cc pc = .ok (.if_icmp .le off, 3)) (ht : (pc : Int) + off = (tgt : Int)) (kt : x = some out → W p l e R s m args below meth c H locs cells slots Q (F0 m tgt ls rest)) (kf : y = some out → W p l e R s m args below meth c H locs cells slots Q (F0 m (pc + 3) ls rest)) : W p l e R s m args below meth c H locs cells slots Q (F0 m pc ls (.int (iZ b) :: .int (iZ a) :: rest)) := by
  refine lv_icmp_le C.1 C.2.1 d ht (fun hc => kt ?_) (fun hc => kf ?_)
  · rwa [if_pos (show leb a b = true from decide_eq_true hc)] at hM
  · rwa [if_neg (show ¬ leb a b = true from fun z => hc (of_decide_eq_true z))] at hM
theorem m_if_le (C : Cx p s m args c cc nL own D ad cA sd sv A) {a : Int} {α : Type} {out : α} {off : Int} {x y : Option α} (hM : (if leb a 0 then x else y) = some out) (tgt : Nat) (d : decode cc pc = .ok (.ifCond .le off, 3)) (ht : (pc : Int) + off = (tgt : Int)) (kt : x = some out → W p l e R s m args below meth c H locs cells slots Q (F0 m tgt ls rest)) (kf : y = some out → W p l e R s m args below meth c H locs cells slots Q (F0 m (pc + 3) ls rest)) : W p l e R s m args below meth c H locs cells slots Q (F0 m pc ls (.int (iZ a) :: rest)) := by
  refine lv_if_le C.1 C.2.1 d ht (fun hc => kt ?_) (fun hc => kf ?_)
  · rwa [if_pos (show leb a 0 = true from decide_eq_true hc)] at hM
  · rwa [if_neg (show ¬ leb a 0 = true from fun z => hc (of_decide_eq_true z))] at hM
theorem m_swc {a : Int} {α : Type} {out : α} {x y : Option α} {g : JFrame} (k : Int) (hM : (if eqb a k then x else y) = some out) (kt : iZ a = iZ k → x = some out → W p l e R s m args below meth c H locs cells slots Q g) (kf : ¬ iZ a = iZ k → y = some out → W p l e R s m args below meth c H locs cells slots Q g) : W p l e R s m args below meth c H locs cells slots Q g := by
  by_cases hc : iZ a = iZ k
  · exact kt hc (by rwa [if_pos (show eqb a k = true from decide_eq_true hc)] at hM)
  · exact kf hc (by rwa [if_neg (show ¬ eqb a k = true from fun z => hc (of_decide_eq_true z))] at hM)
theorem m_goto (C : Cx p s m args c cc nL own D ad cA sd sv A) {off : Int} (tgt : Nat) (d : decode cc pc = .ok (.goto off, 3)) (ht : (pc : Int) + off = (tgt : Int)) (k : W p l e R s m args below meth c H locs cells slots Q (F0 m tgt ls rest)) : W p l e R s m args below meth c H locs cells slots Q (F0 m pc ls rest) := lv_goto C.1 C.2.1 d ht k
theorem m_geti (C : Cx p s m args c cc nL own D ad cA sd sv A) (hP : va_P D clL (wl ad cA h) H) {o ci idx n : Nat} {sl : List (Option Nat)} {Cn : String} {Tn : u_T} {ty : Nat → FieldType} (hc : KC ci Cn Tn n ty) (hsh : shp o = .inl (ci, sl)) (ho : o < 97) (k : Nat) (hk : sl[k]? = some none) (hkn : k < n) (hlk : Cond.fieldLink own idx (Tn k).1 (Tn k).2.1 (Tn k).2.2.1 ∈ TT) (d : decode cc pc = .ok (.getfield idx, 3)) (kk : W p l e R s m args below meth c H locs cells slots Q (F0 m (pc + 3) ls (.int (iZ (h o k)) :: rest))) : W p l e R s m args below meth c H locs cells slots Q (F0 m pc ls (.ref (ad o) :: rest)) :=
  va_get (D := D) (ci := ci) (v := .int (iZ (h o k))) C.1 C.2.1 C.2.2.2.2.1 hc.2.1 C.2.2.2.1 C.2.2.2.2.2.1 hP o (by rw [wl_at ad cA h ho, ent_o hsh]) hc.1 k hkn (C.2.2.2.2.1 _ hlk) (fun _ h9 => h9) (by rw [fsl_get ad (h o) sl 0 k hk, Nat.zero_add]) d kk
theorem m_getr (C : Cx p s m args c cc nL own D ad cA sd sv A) (hP : va_P D clL (wl ad cA h) H) {o ci idx n : Nat} {sl : List (Option Nat)} {Cn : String} {Tn : u_T} {ty : Nat → FieldType} (hc : KC ci Cn Tn n ty) (hsh : shp o = .inl (ci, sl)) (ho : o < 97) (k t : Nat) (hk : sl[k]? = some (some t)) (hkn : k < n) (hlk : Cond.fieldLink own idx (Tn k).1 (Tn k).2.1 (Tn k).2.2.1 ∈ TT) (d : decode cc pc = .ok (.getfield idx, 3)) (kk : W p l e R s m args below meth c H locs cells slots Q (F0 m (pc + 3) ls (.ref (ad t) :: rest))) : W p l e R s m args below meth c H locs cells slots Q (F0 m pc ls (.ref (ad o) :: rest)) :=
  va_get (D := D) (ci := ci) (v := .ref (ad t)) C.1 C.2.1 C.2.2.2.2.1 hc.2.1 C.2.2.2.1 C.2.2.2.2.2.1 hP o (by rw [wl_at ad cA h ho, ent_o hsh]) hc.1 k hkn (C.2.2.2.2.1 _ hlk) (fun _ h9 => h9) (fsl_getR ad (h o) sl 0 k t hk) d kk
theorem puti_wl {ad : Nat → Nat} {cA : Nat → ClassId} {h : Hp} {o ci k : Nat} {sl : List (Option Nat)} (hsh : shp o = .inl (ci, sl)) (hk : sl[k]? = some none) (v : Int) : (wl ad cA h).set o (ad o, .inr (ci, (fsl ad (h o) 0 sl).set k (.int (iZ v)))) = wl ad cA (hs h o k v) :=
  wl_set ad cA (by rw [ent_o hsh, fsl_set ad (h o) (hs h o k v o) v sl 0 k hk (by rw [Nat.zero_add, hs_eq]) (fun i hi => hs_ne h o k v (by omega))]) (hs_o h o k v)
theorem m_puti (C : Cx p s m args c cc nL own D ad cA sd sv A) (w : Wd s D ad cA A h H locs) {o ci idx n : Nat} {sl : List (Option Nat)} {Cn : String} {Tn : u_T} {ty : Nat → FieldType} {v : Int} {α : Type} {out : α} {f : Hp → Option α} (hc : KC ci Cn Tn n ty) (hsh : shp o = .inl (ci, sl)) (ho : o < 97) (k : Nat) (hM : lt' (hs h o k v) f = some out) (hk : sl[k]? = some none) (hkn : k < n) (hty : ty k = .int) (hfin : (Tn k).2.2.2 = false) (hlk : Cond.fieldLink own idx (Tn k).1 (Tn k).2.1 (Tn k).2.2.1 ∈ TT) (d : decode cc pc = .ok (.putfield idx, 3)) (kk : ∀ (h : Hp) (H : Heap) (locs : List Loc), Wd s D ad cA A h H locs → f h = some out → W p l e R s m args below meth c H locs cells slots Q (F0 m (pc + 3) ls rest)) : W p l e R s m args below meth c H locs cells slots Q (F0 m pc ls (.int (iZ v) :: .ref (ad o) :: rest)) :=
  va_put (D := D) (ci := ci) (v := .int (iZ v)) (ty := .int) C.1 C.2.1 C.2.2.2.2.1 hc.2.1 ty hc.2.2.1 hc.2.2.2 C.2.2.2.1 C.2.2.2.2.2.1 w.1 (C.2.2.2.2.2.2.1.D cA h) w.2 o (by rw [wl_at ad cA h ho, ent_o hsh]) hc.1 k hkn (C.2.2.2.2.1 _ hlk) (fun _ h9 => h9) hfin (by rw [hc.2.2.1 k hkn, hty]) rfl rfl (by rw [fsl_len]; exact (List.getElem?_eq_some_iff.mp hk).1) d
    (fun H1 locs1 hP1 _ hS1 => kk (hs h o k v) H1 locs1 ⟨by rw [puti_wl hsh hk v] at hP1; exact hP1, hS1⟩ hM)
theorem m_putz (C : Cx p s m args c cc nL own D ad cA sd sv A) (w : Wd s D ad cA A h H locs) {o ci idx n : Nat} {sl : List (Option Nat)} {Cn : String} {Tn : u_T} {ty : Nat → FieldType} {v : Int} {α : Type} {out : α} {f : Hp → Option α} (hc : KC ci Cn Tn n ty) (hsh : shp o = .inl (ci, sl)) (ho : o < 97) (k : Nat) (hM : ckB v (lt' (hs h o k v) f) = some out) (hk : sl[k]? = some none) (hkn : k < n) (hty : ty k = .boolean) (hfin : (Tn k).2.2.2 = false) (hlk : Cond.fieldLink own idx (Tn k).1 (Tn k).2.1 (Tn k).2.2.1 ∈ TT) (d : decode cc pc = .ok (.putfield idx, 3)) (kk : ∀ (h : Hp) (H : Heap) (locs : List Loc), Wd s D ad cA A h H locs → f h = some out → W p l e R s m args below meth c H locs cells slots Q (F0 m (pc + 3) ls rest)) : W p l e R s m args below meth c H locs cells slots Q (F0 m pc ls (.int (iZ v) :: .ref (ad o) :: rest)) := by
  unfold ckB at hM
  by_cases hv : isB v = true
  · rw [if_pos hv] at hM
    have h01 : v = 0 ∨ v = 1 := by simpa [isB] using hv
    exact va_put (D := D) (ci := ci) (v := .int (iZ v)) (ty := .boolean) C.1 C.2.1 C.2.2.2.2.1 hc.2.1 ty hc.2.2.1 hc.2.2.2 C.2.2.2.1 C.2.2.2.2.2.1 w.1 (C.2.2.2.2.2.2.1.D cA h) w.2 o (by rw [wl_at ad cA h ho, ent_o hsh]) hc.1 k hkn (C.2.2.2.2.1 _ hlk) (fun _ h9 => h9) hfin (by rw [hc.2.2.1 k hkn, hty]) (by rcases h01 with rfl | rfl <;> rfl) (by rcases h01 with rfl | rfl <;> rfl) (by rw [fsl_len]; exact (List.getElem?_eq_some_iff.mp hk).1) d
      (fun H1 locs1 hP1 _ hS1 => kk (hs h o k v) H1 locs1 ⟨by rw [puti_wl hsh hk v] at hP1; exact hP1, hS1⟩ hM)
  · rw [if_neg hv] at hM; cases hM
theorem m_iald (C : Cx p s m args c cc nL own D ad cA sd sv A) (hP : va_P D clL (wl ad cA h) H) {o n : Nat} {i : Int} {α : Type} {out : α} {f : Int → Option α} (hsh : shp o = .inr (0, n)) (ho : o < 97) (hn : n < 2147483648) (hM : (rdA h o n i).bind f = some out) (d : decode cc pc = .ok (.iaload, 1)) (kk : ∀ x : Int, f x = some out → W p l e R s m args below meth c H locs cells slots Q (F0 m (pc + 1) ls (.int (iZ x) :: rest))) : W p l e R s m args below meth c H locs cells slots Q (F0 m pc ls (.int (iZ i) :: .ref (ad o) :: rest)) := by
  unfold rdA at hM
  by_cases hi : 0 ≤ i ∧ i < (n : Int)
  · rw [if_pos hi] at hM
    obtain ⟨h1, h2⟩ := iZ_inb hi hn
    refine va_iald (D := D) C.1 C.2.1 C.2.2.2.2.2.1 hP o 0 (cA := cA 0) (n := n) (f := fun k => iZ (h o k)) (by rw [wl_at ad cA h ho, ent_a hsh (by decide)]) rfl h1 d ?_
    rw [h2]
    exact kk _ hM
  · rw [if_neg hi] at hM; cases hM
theorem m_bald (C : Cx p s m args c cc nL own D ad cA sd sv A) (hP : va_P D clL (wl ad cA h) H) {o n : Nat} {i : Int} {α : Type} {out : α} {f : Int → Option α} (hsh : shp o = .inr (1, n)) (ho : o < 97) (hn : n < 2147483648) (hM : (rdA h o n i).bind f = some out) (d : decode cc pc = .ok (.baload, 1)) (kk : ∀ x : Int, f x = some out → W p l e R s m args below meth c H locs cells slots Q (F0 m (pc + 1) ls (.int (iZ x) :: rest))) : W p l e R s m args below meth c H locs cells slots Q (F0 m pc ls (.int (iZ i) :: .ref (ad o) :: rest)) := by
  unfold rdA at hM
  by_cases hi : 0 ≤ i ∧ i < (n : Int)
  · rw [if_pos hi] at hM
    obtain ⟨h1, h2⟩ := iZ_inb hi hn
    refine va_bald (D := D) C.1 C.2.1 C.2.2.2.2.2.1 hP o 1 (cA := cA 1) (n := n) (f := fun k => iZ (h o k)) (by rw [wl_at ad cA h ho, ent_a hsh (by decide)]) rfl h1 d ?_
    rw [h2]
    exact kk _ hM
  · rw [if_neg hi] at hM; cases hM
theorem m_zald (C : Cx p s m args c cc nL own D ad cA sd sv A) (hP : va_P D clL (wl ad cA h) H) {o n : Nat} {i : Int} {α : Type} {out : α} {f : Int → Option α} (hsh : shp o = .inr (2, n)) (ho : o < 97) (hn : n < 2147483648) (hM : (rdA h o n i).bind f = some out) (d : decode cc pc = .ok (.baload, 1)) (kk : ∀ x : Int, f x = some out → W p l e R s m args below meth c H locs cells slots Q (F0 m (pc + 1) ls (.int (iZ x) :: rest))) : W p l e R s m args below meth c H locs cells slots Q (F0 m pc ls (.int (iZ i) :: .ref (ad o) :: rest)) := by
  unfold rdA at hM
  by_cases hi : 0 ≤ i ∧ i < (n : Int)
  · rw [if_pos hi] at hM
    obtain ⟨h1, h2⟩ := iZ_inb hi hn
    refine va_zald (D := D) C.1 C.2.1 C.2.2.2.2.2.1 hP o 2 (cA := cA 2) (n := n) (f := fun k => iZ (h o k)) (by rw [wl_at ad cA h ho, ent_a hsh (by decide)]) rfl h1 d ?_
    rw [h2]
    exact kk _ hM
  · rw [if_neg hi] at hM; cases hM
theorem m_iast (C : Cx p s m args c cc nL own D ad cA sd sv A) (w : Wd s D ad cA A h H locs) {o n : Nat} {i v : Int} {α : Type} {out : α} {f : Hp → Option α} (hsh : shp o = .inr (0, n)) (ho : o < 97) (hn : n < 2147483648) (hM : (wrA h o n i v).bind f = some out) (d : decode cc pc = .ok (.iastore, 1)) (kk : ∀ (h : Hp) (H : Heap) (locs : List Loc), Wd s D ad cA A h H locs → f h = some out → W p l e R s m args below meth c H locs cells slots Q (F0 m (pc + 1) ls rest)) : W p l e R s m args below meth c H locs cells slots Q (F0 m pc ls (.int (iZ v) :: .int (iZ i) :: .ref (ad o) :: rest)) := by
  unfold wrA at hM
  by_cases hi : 0 ≤ i ∧ i < (n : Int)
  · rw [if_pos hi] at hM
    obtain ⟨h1, h2⟩ := iZ_inb hi hn
    refine va_iast (D := D) (A := A) C.1 C.2.1 C.2.2.2.2.2.1 w.1 (C.2.2.2.2.2.2.1.D cA h) w.2 o 0 (cA := cA 0) (n := n) (f := fun k => iZ (h o k)) (by rw [wl_at ad cA h ho, ent_a hsh (by decide)]) rfl h1 d (fun H1 locs1 hP1 _ hS1 => kk (hs h o i.toNat v) H1 locs1 ⟨?_, hS1⟩ hM)
    rw [h2] at hP1
    refine (wl_set ad cA (h' := hs h o i.toNat v) ?_ (hs_o h o _ _)) ▸ hP1
    rw [ent_a hsh (by decide)]
    congr 3
    congr 1
    funext k
    unfold upd
    by_cases hk : k = i.toNat
    · subst hk; rw [if_pos rfl, hs_eq]
    · rw [if_neg hk, hs_ne h o _ _ hk]
  · rw [if_neg hi] at hM; cases hM
theorem m_bast (C : Cx p s m args c cc nL own D ad cA sd sv A) (w : Wd s D ad cA A h H locs) {o n : Nat} {i v : Int} {α : Type} {out : α} {f : Hp → Option α} (hsh : shp o = .inr (1, n)) (ho : o < 97) (hn : n < 2147483648) (hM : (wrA h o n i (i2bI v)).bind f = some out) (d : decode cc pc = .ok (.bastore, 1)) (kk : ∀ (h : Hp) (H : Heap) (locs : List Loc), Wd s D ad cA A h H locs → f h = some out → W p l e R s m args below meth c H locs cells slots Q (F0 m (pc + 1) ls rest)) : W p l e R s m args below meth c H locs cells slots Q (F0 m pc ls (.int (iZ v) :: .int (iZ i) :: .ref (ad o) :: rest)) := by
  have HV : iZ (i2bI v) = vp_nar .byte (iZ v) := by rw [vp_nar_byte]; exact iZ_toInt _
  unfold wrA at hM
  by_cases hi : 0 ≤ i ∧ i < (n : Int)
  · rw [if_pos hi] at hM
    obtain ⟨h1, h2⟩ := iZ_inb hi hn
    refine va_bast (D := D) (A := A) C.1 C.2.1 C.2.2.2.2.2.1 w.1 (C.2.2.2.2.2.2.1.D cA h) w.2 o 1 (cA := cA 1) (n := n) (f := fun k => iZ (h o k)) (by rw [wl_at ad cA h ho, ent_a hsh (by decide)]) rfl h1 d (fun H1 locs1 hP1 _ hS1 => kk (hs h o i.toNat (i2bI v)) H1 locs1 ⟨?_, hS1⟩ hM)
    rw [h2] at hP1
    refine (wl_set ad cA (h' := hs h o i.toNat (i2bI v)) ?_ (hs_o h o _ _)) ▸ hP1
    rw [ent_a hsh (by decide)]
    congr 3
    congr 1
    funext k
    unfold upd
    by_cases hk : k = i.toNat
    · subst hk; rw [if_pos rfl, hs_eq]; exact HV
    · rw [if_neg hk, hs_ne h o _ _ hk]
  · rw [if_neg hi] at hM; cases hM
theorem m_zast (C : Cx p s m args c cc nL own D ad cA sd sv A) (w : Wd s D ad cA A h H locs) {o n : Nat} {i v : Int} {α : Type} {out : α} {f : Hp → Option α} (hsh : shp o = .inr (2, n)) (ho : o < 97) (hn : n < 2147483648) (hM : ckB v ((wrA h o n i v).bind f) = some out) (d : decode cc pc = .ok (.bastore, 1)) (kk : ∀ (h : Hp) (H : Heap) (locs : List Loc), Wd s D ad cA A h H locs → f h = some out → W p l e R s m args below meth c H locs cells slots Q (F0 m (pc + 1) ls rest)) : W p l e R s m args below meth c H locs cells slots Q (F0 m pc ls (.int (iZ v) :: .int (iZ i) :: .ref (ad o) :: rest)) := by
  unfold ckB at hM
  by_cases hv : isB v = true
  case neg => rw [if_neg hv] at hM; cases hM
  rw [if_pos hv] at hM
  have h01 : v = 0 ∨ v = 1 := by simpa [isB] using hv
  have HV : iZ v = vp_nar .boolean (iZ v) := by rcases h01 with rfl | rfl <;> rfl
  unfold wrA at hM
  by_cases hi : 0 ≤ i ∧ i < (n : Int)
  · rw [if_pos hi] at hM
    obtain ⟨h1, h2⟩ := iZ_inb hi hn
    refine va_zast (D := D) (A := A) C.1 C.2.1 C.2.2.2.2.2.1 w.1 (C.2.2.2.2.2.2.1.D cA h) w.2 o 2 (cA := cA 2) (n := n) (f := fun k => iZ (h o k)) (by rw [wl_at ad cA h ho, ent_a hsh (by decide)]) rfl h1 d (fun H1 locs1 hP1 _ hS1 => kk (hs h o i.toNat v) H1 locs1 ⟨?_, hS1⟩ hM)
    rw [h2] at hP1
    refine (wl_set ad cA (h' := hs h o i.toNat v) ?_ (hs_o h o _ _)) ▸ hP1
    rw [ent_a hsh (by decide)]
    congr 3
    congr 1
    funext k
    unfold upd
    by_cases hk : k = i.toNat
    · subst hk; rw [if_pos rfl, hs_eq]; exact HV
    · rw [if_neg hk, hs_ne h o _ _ hk]
  · rw [if_neg hi] at hM; cases hM
theorem lt_join {α β : Type} {x : α} {f : α → Option β} {out : β} {P : Prop} (hM : lt' x f = some out) (k : ∀ j, j = x → f j = some out → P) : P := k x rfl hM
end MR

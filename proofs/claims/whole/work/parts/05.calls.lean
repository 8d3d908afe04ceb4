def rmD (d : Nat) : Room := { frames := d, cells := 0, slots := 0, locals := 40 * d }
def Inj97 (ad : Nat → Nat) : Prop := ∀ i j, i < 97 → j < 97 → ad i = ad j → i = j
def PC (D : va_G) (ad : Nat → Nat) (cA : Nat → ClassId) (sd sv : Nat → Nat) (h : Hp) (av : List Value) : Array Value → State → Prop := va_Pc av (fun U => va_P D clL (wl ad cA h) U.heap ∧ va_K D clL (tyL cA) U ∧ EV sd sv (FA ad) U U.heap)
theorem PC.blind {D : va_G} {ad : Nat → Nat} {cA : Nat → ClassId} {sd sv : Nat → Nat} {h : Hp} {av : List Value} : FrameBlind (PC D ad cA sd sv h av) := fun a U g mk q => ⟨q.1, q.2.1, va_K.moved (u := U) (U := U.calling g mk a) (Vm.Alike.refl U.vm) q.2.2.1, EV.same (u := U) (U := U.calling g mk a) rfl q.2.2.2⟩
def QV (D : va_G) (ad : Nat → Nat) (cA : Nat → ClassId) (out : Hp) : Array Value → State → Outcome → State → Prop := va_Qv (S := Unit) (fun _ => True) (fun _ t => va_P D clL (wl ad cA out) t.heap) (FA ad)
def QI (D : va_G) (ad : Nat → Nat) (cA : Nat → ClassId) (out : Int × Hp) : Array Value → State → Outcome → State → Prop := va_Qi (S := Unit) (fun x _ => x = iZ out.1) (fun _ t => va_P D clL (wl ad cA out.2) t.heap) (FA ad)
def QN (D : va_G) (ad : Nat → Nat) (cA : Nat → ClassId) (tgt : Nat) (out : Hp) : Array Value → State → Outcome → State → Prop := va_Qr (S := Unit) (fun _ => True) (fun _ a t => a = ad tgt ∧ va_P D clL (wl ad cA out) t.heap) (FA ad)
def QR (r : Int) : Array Value → State → Outcome → State → Prop := vp_Si (fun x => x = iZ r)
section M4
variable {p : Program} {l : Launch} {e : Env} {R : Room} {s : State} {m : MethodId} {args : Array Value} {below : List Frame} {meth : Method} {c : Code} {H : Heap} {locs : List Loc} {cells slots : Nat} {Q : State → Prop}
variable {cc : ByteArray} {nL pc : Nat} {ls : Array Slot} {rest : List Value} {own : String} {D : va_G} {ad : Nat → Nat} {cA : Nat → ClassId} {sd sv : Nat → Nat} {A : Nat → Prop} {h : Hp}
/-- a method's entry -/
theorem entM {y : MethodName} {maxL : Nat} {rt : Option FieldType} {rm : Room} {mc ms : Nat} {av : List Value} {Qc : Array Value → State → Outcome → State → Prop} {free : Addr → Prop} (hpl : plainName y.cls = true) (hI : Inj97 ad) (hlen : (lg_sl av).length ≤ maxL)
    (body : ∀ p e s m args below meth c, Cx p s m args c cc maxL y.cls D ad cA sd sv (FA ad) → meth.sig.returnType = rt → meth.locks = false → va_P D clL (wl ad cA h) s.heap → ∀ ls, lv_has ls maxL (lv_args 0 av) → W p l e rm s m args below meth c s.heap [] 0 0 (MQ below Qc args s mc ms free) (F0 m 0 ls [])) :
    Met l y (.code y cc maxL rt :: TT) rm (PC D ad cA sd sv h av) Qc mc ms free := by
  refine Met.ofW (cc := cc) (maxL := maxL) (ret := rt) hpl rfl ?_
  intro p e s m args below meth c s₁ B hml hv
  obtain ⟨rfl, hP, hK, hE⟩ := hv
  have hts := atoms_spec (ws := .code y cc maxL rt :: TT) B.pre
  have hl := lv_entry av (n := maxL) hlen
  rw [lg_entry_eq]
  generalize (lg_sl av ++ List.replicate (maxL - (lg_sl av).length) Slot.unset).toArray = ls at hl ⊢
  exact body p e s m _ below meth c ⟨B.exec, B.bytes, hml, findClass_of_methodNamed B.named, fun w hw => hts w (List.mem_cons_of_mem _ hw), hK, ⟨hI, fun i hi => ⟨i, hi, rfl⟩⟩, hE⟩ B.returns B.notSynchronized hP ls hl
/-- a JDK method's entry -/
theorem entF {y : MethodName} {maxL : Nat} {rt : Option FieldType} {rm : Room} {mc ms : Nat} {av : List Value} {Qc : Array Value → State → Outcome → State → Prop} {free : Addr → Prop} (hpl : plainFor y = true) (hI : Inj97 ad) (hlen : (lg_sl av).length ≤ maxL)
    (body : ∀ p e s m args below meth c, Cx p s m args c cc maxL y.cls D ad cA sd sv (FA ad) → meth.sig.returnType = rt → meth.locks = false → va_P D clL (wl ad cA h) s.heap → ∀ ls, lv_has ls maxL (lv_args 0 av) → W p l e rm s m args below meth c s.heap [] 0 0 (MQ below Qc args s mc ms free) (F0 m 0 ls [])) :
    Met l y (.code y cc maxL rt :: TT) rm (PC D ad cA sd sv h av) Qc mc ms free := by
  refine va_MetF (cc := cc) (maxL := maxL) (ret := rt) hpl rfl ?_
  intro p e s m args below meth c s₁ B hml hv
  obtain ⟨rfl, hP, hK, hE⟩ := hv
  have hts := atoms_spec (ws := .code y cc maxL rt :: TT) B.pre
  have hl := lv_entry av (n := maxL) hlen
  rw [lg_entry_eq]
  generalize (lg_sl av ++ List.replicate (maxL - (lg_sl av).length) Slot.unset).toArray = ls at hl ⊢
  exact body p e s m _ below meth c ⟨B.exec, B.bytes, hml, findClass_of_methodNamed B.named, fun w hw => hts w (List.mem_cons_of_mem _ hw), hK, ⟨hI, fun i hi => ⟨i, hi, rfl⟩⟩, hE⟩ B.returns B.notSynchronized hP ls hl
/-- ends -/
theorem m_iretR (C : Cx p s m args c cc nL own D ad cA sd sv A) {a r : Int} (hr : meth.sig.returnType = some .int) (hlk : meth.locks = false) (hM : some a = some r) (d : decode cc pc = .ok (.ireturn, 1)) : W p l e R s m args below meth c s.heap [] 0 0 (MQ below (QR r) args s 0 0 (fun _ => False)) (F0 m pc ls [.int (iZ a)]) := by
  cases hM
  exact W.iret (v := iZ a) C.1 C.2.1 hr (fun t ht _ => ⟨iZ a, rfl, rfl, ht⟩) (fun q h => by cases h) d hlk
theorem rtB_spec {a r : Int} (h : rtB a = some r) : a = r ∧ (a = 0 ∨ a = 1) := by
  unfold rtB ckB at h
  by_cases hv : isB a = true
  · rw [if_pos hv] at h
    exact ⟨Option.some.inj h, by simpa [isB] using hv⟩
  · rw [if_neg hv] at h; cases h
theorem m_zretR (C : Cx p s m args c cc nL own D ad cA sd sv A) {a r : Int} (hr : meth.sig.returnType = some .boolean) (hlk : meth.locks = false) (hM : rtB a = some r) (d : decode cc pc = .ok (.ireturn, 1)) : W p l e R s m args below meth c s.heap [] 0 0 (MQ below (QR r) args s 0 0 (fun _ => False)) (F0 m pc ls [.int (iZ a)]) := by
  obtain ⟨rfl, h01⟩ := rtB_spec hM
  exact W.zret (v := iZ a) C.1 C.2.1 hr (by rcases h01 with rfl | rfl <;> rfl) (fun t ht _ => ⟨iZ a, rfl, rfl, ht⟩) (fun q h => by cases h) d hlk
theorem m_vretW (C : Cx p s m args c cc nL own D ad cA sd sv A) (w : Wd s D ad cA (FA ad) h H locs) {out : Hp} (hr : meth.sig.returnType = none) (hlk : meth.locks = false) (hM : some h = some out) (d : decode cc pc = .ok (.return_, 1)) : W p l e R s m args below meth c H locs 0 0 (MQ below (QV D ad cA out) args s 0 0 (FA ad)) (F0 m pc ls []) := by
  cases hM
  exact W.vret C.1 C.2.1 hr (fun t ht _ => ⟨⟨(), rfl, trivial, by subst ht; exact w.1⟩, w.2.F ht⟩) w.2.2.2 d hlk
theorem m_iretW (C : Cx p s m args c cc nL own D ad cA sd sv A) (w : Wd s D ad cA (FA ad) h H locs) {a : Int} {out : Int × Hp} (hr : meth.sig.returnType = some .int) (hlk : meth.locks = false) (hM : some (a, h) = some out) (d : decode cc pc = .ok (.ireturn, 1)) : W p l e R s m args below meth c H locs 0 0 (MQ below (QI D ad cA out) args s 0 0 (FA ad)) (F0 m pc ls [.int (iZ a)]) := by
  cases hM
  exact W.iret (v := iZ a) C.1 C.2.1 hr (fun t ht _ => ⟨⟨iZ a, (), rfl, rfl, by subst ht; exact w.1⟩, w.2.F ht⟩) w.2.2.2 d hlk
theorem m_zretW (C : Cx p s m args c cc nL own D ad cA sd sv A) (w : Wd s D ad cA (FA ad) h H locs) {a : Int} {out : Int × Hp} (hr : meth.sig.returnType = some .boolean) (hlk : meth.locks = false) (hM : ckB a (some (a, h)) = some out) (d : decode cc pc = .ok (.ireturn, 1)) : W p l e R s m args below meth c H locs 0 0 (MQ below (QI D ad cA out) args s 0 0 (FA ad)) (F0 m pc ls [.int (iZ a)]) := by
  unfold ckB at hM
  by_cases hv : isB a = true
  · rw [if_pos hv] at hM
    have h01 : a = 0 ∨ a = 1 := by simpa [isB] using hv
    cases hM
    exact W.zret (v := iZ a) C.1 C.2.1 hr (by rcases h01 with rfl | rfl <;> rfl) (fun t ht _ => ⟨⟨iZ a, (), rfl, rfl, by subst ht; exact w.1⟩, w.2.F ht⟩) w.2.2.2 d hlk
  · rw [if_neg hv] at hM; cases hM
theorem m_aretW (C : Cx p s m args c cc nL own D ad cA sd sv A) (w : Wd s D ad cA (FA ad) h H locs) {tgt : Nat} {cn : String} {out : Hp} (hr : meth.sig.returnType = some (.object cn)) (hlk : meth.locks = false) (hM : some h = some out) (d : decode cc pc = .ok (.areturn, 1)) : W p l e R s m args below meth c H locs 0 0 (MQ below (QN D ad cA tgt out) args s 0 0 (FA ad)) (F0 m pc ls [.ref (ad tgt)]) := by
  cases hM
  exact W.aret (v := .ref (ad tgt)) C.1 C.2.1 hr (Or.inl ⟨cn, rfl⟩) (Or.inr ⟨_, rfl⟩) (fun t ht _ => ⟨⟨(), ad tgt, rfl, trivial, rfl, by subst ht; exact w.1⟩, w.2.F ht⟩) w.2.2.2 d hlk
/-- what the tables say of a method that is called -/
def MBv (C : String) (y : MethodName) (bytes : ByteArray) (maxL : Nat) (ret : Option FieldType) (n : Nat) : Prop := Cond.instanceMethod y ∈ TT ∧ Cond.selects C y y ∈ TT ∧ Cond.initialized C ∈ TT ∧ Cond.code y bytes maxL ret ∈ TT ∧ maxL ≤ 21 ∧ y.cls = C ∧ y.cls ≠ "java/lang/invoke/MethodHandle" ∧ y.cls ≠ "java/lang/invoke/VarHandle" ∧ (parseMethodDescriptor y.desc).map (fun d => d.parameters.length) = some n
def MBs (y : MethodName) (bytes : ByteArray) (maxL : Nat) (ret : Option FieldType) (n : Nat) : Prop := Cond.static y ∈ TT ∧ Cond.initialized y.cls ∈ TT ∧ Cond.code y bytes maxL ret ∈ TT ∧ maxL ≤ 21 ∧ y.cls ≠ "java/lang/invoke/MethodHandle" ∧ y.cls ≠ "java/lang/invoke/VarHandle" ∧ (parseMethodDescriptor y.desc).map (fun d => d.parameters.length) = some n
theorem gd1 {w : Cond} (h : w ∈ TT) : w ∈ TT ∧ ((w.onTables && w.keeps) = true ∨ ∃ ty, w = .arrayClass ty) := ⟨h, good_of_word (TT_good w h)⟩
theorem good_V {own C : String} {idx maxL n : Nat} {y : MethodName} {bytes : ByteArray} {ret : Option FieldType} (hl : Cond.methodLink own idx y ∈ TT) (hb : MBv C y bytes maxL ret n) : GoodIn TT (wsV own idx C y (.code y bytes maxL ret :: TT)) := by
  intro w hw
  simp only [wsV, List.cons_append, List.nil_append, List.mem_cons] at hw
  rcases hw with rfl | rfl | rfl | rfl | rfl | hw
  · exact gd1 hl
  · exact gd1 hb.1
  · exact gd1 hb.2.1
  · exact gd1 hb.2.2.1
  · exact gd1 hb.2.2.2.1
  · exact gd1 hw
theorem good_S {own : String} {idx maxL n : Nat} {y : MethodName} {bytes : ByteArray} {ret : Option FieldType} (hl : Cond.methodLink own idx y ∈ TT) (hb : MBs y bytes maxL ret n) : GoodIn TT (va_wsS own idx y (.code y bytes maxL ret :: TT)) := by
  intro w hw
  simp only [va_wsS, List.cons_append, List.nil_append, List.mem_cons] at hw
  rcases hw with rfl | rfl | rfl | rfl | hw
  · exact gd1 hl
  · exact gd1 hb.1
  · exact gd1 hb.2.1
  · exact gd1 hb.2.2.1
  · exact gd1 hw
theorem FA_A (C : Cx p s m args c cc nL own D ad cA sd sv A) : ∀ q, FA ad q → A q := fun q hq => by obtain ⟨i, hi, rfl⟩ := hq; exact C.2.2.2.2.2.2.1.2 i hi
/-- an invokevirtual, and an invokestatic, of a method with a contract over the memory -/
theorem runV (C : Cx p s m args c cc nL own D ad cA sd sv A) (hP : va_P D clL (wl ad cA h) H) (hS : va_S A s.heap H locs) {o ci n idx maxL d' nn : Nat} {sl : List (Option Nat)} {Cn : String} {Tn : u_T} {ty : Nat → FieldType} (hc : KC ci Cn Tn nn ty) (hsh : shp o = .inl (ci, sl)) (ho : o < 97) {y : MethodName} {bytes : ByteArray} {ret : Option FieldType} {As : List Value} {Qc : Array Value → State → Outcome → State → Prop} {free : Addr → Prop}
    (hMet : Met l y (.code y bytes maxL ret :: TT) (rmD d') (PC D ad cA sd sv h (.ref (ad o) :: As)) Qc 0 0 free) (hl : Cond.methodLink own idx y ∈ TT) (hb : MBv Cn y bytes maxL ret n) (hn : As.length = n) (hR : d' + 1 ≤ R.frames ∧ 40 * (d' + 1) ≤ R.locals) (hcs : cells ≤ R.cells ∧ slots ≤ R.slots) (hcat : (rest.map fun v => v.category).sum ≤ 8) (d : decode cc pc = .ok (.invokevirtual idx, 3)) (hsz : ls.size = nL) {st : List Value} (hst : st = As.reverse ++ .ref (ad o) :: rest) :
    va_Run p l e R s m args below meth c H locs cells slots 0 0 (F0 m pc ls st) rest (Qc (Value.ref (ad o) :: As).toArray) free :=
  va_runV (As := As) (rest := rest) ⟨C.1, C.2.1, C.2.2.1, C.2.2.2.1, C.2.2.2.2.1⟩ hMet (cwV n C.2.2.2.2.1 (good_V hl hb) rfl rfl rfl ⟨hb.2.2.2.2.2.1, hb.2.2.2.2.2.2.1, hb.2.2.2.2.2.2.2⟩ ⟨hR.1, by have := hb.2.2.2.2.1; have := hR.2; show 8 + (maxL + 11) + 40 * d' ≤ _; omega⟩) ⟨PC.blind, va_recv C.2.2.2.2.2.1 hP hc.1 (q0 := o) (by rw [wl_at ad cA h ho, ent_o hsh]), fun U hU hW => ⟨rfl, by rw [hU]; exact hP, va_K.moved hW.alike C.2.2.2.2.2.1, C.2.2.2.2.2.2.2.to hS hW hU (FA_A C)⟩⟩ rfl hn hsz hst (lv_room hcat) d ⟨hcs.1, hcs.2⟩
theorem runS (C : Cx p s m args c cc nL own D ad cA sd sv A) (hP : va_P D clL (wl ad cA h) H) (hS : va_S A s.heap H locs) {n idx maxL d' : Nat} {y : MethodName} {bytes : ByteArray} {ret : Option FieldType} {As : List Value} {Qc : Array Value → State → Outcome → State → Prop} {free : Addr → Prop}
    (hMet : Met l y (.code y bytes maxL ret :: TT) (rmD d') (PC D ad cA sd sv h As) Qc 0 0 free) (hl : Cond.methodLink own idx y ∈ TT) (hb : MBs y bytes maxL ret n) (hn : As.length = n) (hR : d' + 1 ≤ R.frames ∧ 40 * (d' + 1) ≤ R.locals) (hcs : cells ≤ R.cells ∧ slots ≤ R.slots) (hcat : (rest.map fun v => v.category).sum ≤ 8) (d : decode cc pc = .ok (.invokestatic idx, 3)) (hsz : ls.size = nL) {st : List Value} (hst : st = As.reverse ++ rest) :
    va_Run p l e R s m args below meth c H locs cells slots 0 0 (F0 m pc ls st) rest (Qc As.toArray) free :=
  va_runS (As := As) (rest := rest) ⟨C.1, C.2.1, C.2.2.1, C.2.2.2.1, C.2.2.2.2.1⟩ hMet (va_cwS n C.2.2.2.2.1 (good_S hl hb) rfl rfl rfl ⟨hb.2.2.2.2.1, hb.2.2.2.2.2⟩ ⟨hR.1, by have := hb.2.2.2.1; have := hR.2; show 8 + (maxL + 11) + 40 * d' ≤ _; omega⟩) ⟨PC.blind, fun U hU hW => ⟨rfl, by rw [hU]; exact hP, va_K.moved hW.alike C.2.2.2.2.2.1, C.2.2.2.2.2.2.2.to hS hW hU (FA_A C)⟩⟩ rfl hn hsz hst (lv_room hcat) d ⟨hcs.1, hcs.2⟩
/-- what comes behind a call -/
theorem aftR {a : Array Value} {st0 : List Value} {r : Int} (hr : va_Run p l e R s m args below meth c H locs cells slots 0 0 (F0 m pc ls st0) rest (QR r a) (fun _ => False)) (kk : W p l e R s m args below meth c H locs cells slots Q (F0 m (pc + 3) ls (.int (iZ r) :: rest))) : W p l e R s m args below meth c H locs cells slots Q (F0 m pc ls st0) :=
  vp_callSi hr.run (fun x hx => by rw [hx]; exact kk)
theorem aftV (C : Cx p s m args c cc nL own D ad cA sd sv A) (w : Wd s D ad cA A h H locs) {a : Array Value} {st0 : List Value} {out : Hp} (hr : va_Run p l e R s m args below meth c H locs cells slots 0 0 (F0 m pc ls st0) rest (QV D ad cA out a) (FA ad)) (kk : ∀ (H : Heap) (locs : List Loc), Wd s D ad cA A out H locs → W p l e R s m args below meth c H locs cells slots Q (F0 m (pc + 3) ls rest)) : W p l e R s m args below meth c H locs cells slots Q (F0 m pc ls st0) :=
  va_callv hr w.2 (fun q _ hq => FA_A C q hq) (FA_A C) (fun _ t H1 locs1 ht _ _ hB _ _ hS => kk H1 locs1 ⟨by rw [← ht]; exact hB, hS⟩)
theorem aftI (C : Cx p s m args c cc nL own D ad cA sd sv A) (w : Wd s D ad cA A h H locs) {a : Array Value} {st0 : List Value} {out : Int × Hp} (hr : va_Run p l e R s m args below meth c H locs cells slots 0 0 (F0 m pc ls st0) rest (QI D ad cA out a) (FA ad)) (kk : ∀ (H : Heap) (locs : List Loc), Wd s D ad cA A out.2 H locs → W p l e R s m args below meth c H locs cells slots Q (F0 m (pc + 3) ls (.int (iZ out.1) :: rest))) : W p l e R s m args below meth c H locs cells slots Q (F0 m pc ls st0) :=
  va_calli hr w.2 (fun q _ hq => FA_A C q hq) (FA_A C) (fun r _ t H1 locs1 ht _ hp hB _ _ hS => by rw [show r = iZ out.1 from hp]; exact kk H1 locs1 ⟨by rw [← ht]; exact hB, hS⟩)
theorem aftN (C : Cx p s m args c cc nL own D ad cA sd sv A) (w : Wd s D ad cA A h H locs) {a : Array Value} {st0 : List Value} {tgt : Nat} {out : Hp} (hr : va_Run p l e R s m args below meth c H locs cells slots 0 0 (F0 m pc ls st0) rest (QN D ad cA tgt out a) (FA ad)) (kk : ∀ (H : Heap) (locs : List Loc), Wd s D ad cA A out H locs → W p l e R s m args below meth c H locs cells slots Q (F0 m (pc + 3) ls (.ref (ad tgt) :: rest))) : W p l e R s m args below meth c H locs cells slots Q (F0 m pc ls st0) :=
  va_callr hr w.2 (fun q _ hq => FA_A C q hq) (FA_A C) (fun _ x t H1 locs1 ht _ _ hB _ _ hS => by obtain ⟨hx, hB⟩ := hB; rw [hx]; exact kk H1 locs1 ⟨by rw [← ht]; exact hB, hS⟩)
theorem bnd_some {α β : Type} {x : Option α} {f : α → Option β} {out : β} (h : x.bind f = some out) : ∃ r, x = some r ∧ f r = some out := by
  cases x with
  | none => cases h
  | some r => exact ⟨r, rfl, h⟩
end M4
theorem ftB {B : Nat} (hB : isBk B) : isFt (B + 10) := by rcases hB with rfl | rfl | rfl <;> simp [isFt]
theorem spB2 {B : Nat} (hB : isBk B) : isSp (B + 2) := by rcases hB with rfl | rfl | rfl <;> simp [isSp]
theorem spB6 {B : Nat} (hB : isBk B) : isSp (B + 6) := by rcases hB with rfl | rfl | rfl <;> simp [isSp]
section M5
variable {p : Program} {l : Launch} {e : Env} {R : Room} {s : State} {m : MethodId} {args : Array Value} {below : List Frame} {meth : Method} {c : Code} {H : Heap} {locs : List Loc} {cells slots : Nat} {Q : State → Prop}
variable {cc : ByteArray} {nL pc : Nat} {ls : Array Slot} {rest : List Value} {own : String} {D : va_G} {ad : Nat → Nat} {cA : Nat → ClassId} {sd sv : Nat → Nat} {A : Nat → Prop} {h : Hp}
theorem iZ_nat (n : Nat) : Int32.ofNat n = iZ (n : Int) := by
  unfold iZ
  exact (congrArg Int32.ofBitVec (BitVec.ofInt_natCast 32 n)).symm
theorem m_alen (C : Cx p s m args c cc nL own D ad cA sd sv A) (hP : va_P D clL (wl ad cA h) H) {o ty n : Nat} (hsh : shp o = .inr (ty, n)) (ho : o < 97) (ht : ty < 3) (d : decode cc pc = .ok (.arraylength, 1)) (kk : W p l e R s m args below meth c H locs cells slots Q (F0 m (pc + 1) ls (.int (iZ (n : Int)) :: rest))) : W p l e R s m args below meth c H locs cells slots Q (F0 m pc ls (.ref (ad o) :: rest)) := by
  have hq : (wl ad cA h)[o]? = some (ad o, .inl (cA ty, n, .inl (fun k => iZ (h o k)))) := by rw [wl_at ad cA h ho, ent_a hsh (by omega)]
  rcases (show ty = 0 ∨ ty = 1 ∨ ty = 2 by omega) with rfl | rfl | rfl
  · exact va_alen (D := D) C.1 C.2.1 C.2.2.2.2.2.1 hP o 0 hq (ty := .int) rfl (iZ_nat n) d kk
  · exact va_alen (D := D) C.1 C.2.1 C.2.2.2.2.2.1 hP o 1 hq (ty := .byte) rfl (iZ_nat n) d kk
  · exact va_alen (D := D) C.1 C.2.1 C.2.2.2.2.2.1 hP o 2 hq (ty := .boolean) rfl (iZ_nat n) d kk
end M5
section M6
variable {p : Program} {l : Launch} {e : Env} {R : Room} {s : State} {m : MethodId} {args : Array Value} {below : List Frame} {meth : Method} {c : Code} {H : Heap} {locs : List Loc} {cells slots : Nat} {Q : State → Prop}
variable {cc : ByteArray} {nL pc : Nat} {ls : Array Slot} {rest : List Value} {own : String} {D : va_G} {ad : Nat → Nat} {cA : Nat → ClassId} {sd sv : Nat → Nat} {A : Nat → Prop} {h : Hp}
theorem iniMath : Cond.initialized "java/lang/Math" ∈ TT := mT1 15 (by decide +kernel) (by decide +kernel)
theorem stM_max : Cond.static Lib.Math.max.name ∈ TT := mT3 26 (by decide +kernel) (by decide +kernel)
theorem cdM_max : Cond.code Lib.Math.max.name Lib.Math.max.code 2 (some .int) ∈ TT := mT3 27 (by decide +kernel) (by decide +kernel)
theorem stM_min : Cond.static Lib.Math.min.name ∈ TT := mT3 181 (by decide +kernel) (by decide +kernel)
theorem cdM_min : Cond.code Lib.Math.min.name Lib.Math.min.code 2 (some .int) ∈ TT := mT3 182 (by decide +kernel) (by decide +kernel)
theorem stM_abs : Cond.static Lib.Math.abs.name ∈ TT := mT7 85 (by decide +kernel) (by decide +kernel)
theorem cdM_abs : Cond.code Lib.Math.abs.name Lib.Math.abs.code 1 (some .int) ∈ TT := mT7 86 (by decide +kernel) (by decide +kernel)
theorem m_max (C : Cx p s m args c cc nL own D ad cA sd sv A) {a b : Int} {idx : Nat} (hlk : Cond.methodLink own idx Lib.Math.max.name ∈ TT) (hsz : ls.size = nL) (hf : 1 ≤ R.frames) (hlo : (rest.map fun v => v.category).sum + 13 ≤ R.locals) (hcs : cells ≤ R.cells ∧ slots ≤ R.slots) (d : decode cc pc = .ok (.invokestatic idx, 3)) (k : W p l e R s m args below meth c H locs cells slots Q (F0 m (pc + 3) ls (.int (iZ (mxI a b)) :: rest))) : W p l e R s m args below meth c H locs cells slots Q (F0 m pc ls (.int (iZ b) :: .int (iZ a) :: rest)) := by
  refine va_mmax C.1 C.2.1 (C.2.2.1.trans hsz.symm) C.2.2.2.1 (C.2.2.2.2.1 _ hlk) (C.2.2.2.2.1 _ stM_max) (C.2.2.2.2.1 _ iniMath) (C.2.2.2.2.1 _ cdM_max) hf hlo hcs.1 hcs.2 d ?_
  have e : (if iZ a < iZ b then iZ b else iZ a) = iZ (mxI a b) := by
    unfold mxI
    by_cases hc : iZ a < iZ b
    · rw [if_pos hc, if_pos (show ltb a b = true from decide_eq_true hc)]
    · rw [if_neg hc, if_neg (show ¬ ltb a b = true from fun z => hc (of_decide_eq_true z))]
  rw [e]
  exact k
theorem m_min (C : Cx p s m args c cc nL own D ad cA sd sv A) {a b : Int} {idx : Nat} (hlk : Cond.methodLink own idx Lib.Math.min.name ∈ TT) (hsz : ls.size = nL) (hf : 1 ≤ R.frames) (hlo : (rest.map fun v => v.category).sum + 13 ≤ R.locals) (hcs : cells ≤ R.cells ∧ slots ≤ R.slots) (d : decode cc pc = .ok (.invokestatic idx, 3)) (k : W p l e R s m args below meth c H locs cells slots Q (F0 m (pc + 3) ls (.int (iZ (mnI a b)) :: rest))) : W p l e R s m args below meth c H locs cells slots Q (F0 m pc ls (.int (iZ b) :: .int (iZ a) :: rest)) := by
  refine va_mmin C.1 C.2.1 (C.2.2.1.trans hsz.symm) C.2.2.2.1 (C.2.2.2.2.1 _ hlk) (C.2.2.2.2.1 _ stM_min) (C.2.2.2.2.1 _ iniMath) (C.2.2.2.2.1 _ cdM_min) hf hlo hcs.1 hcs.2 d ?_
  have e : (if iZ b < iZ a then iZ b else iZ a) = iZ (mnI a b) := by
    unfold mnI
    by_cases hc : iZ b < iZ a
    · rw [if_pos hc, if_pos (show ltb b a = true from decide_eq_true hc)]
    · rw [if_neg hc, if_neg (show ¬ ltb b a = true from fun z => hc (of_decide_eq_true z))]
  rw [e]
  exact k
theorem m_abs (C : Cx p s m args c cc nL own D ad cA sd sv A) {a : Int} {idx : Nat} (hlk : Cond.methodLink own idx Lib.Math.abs.name ∈ TT) (hsz : ls.size = nL) (hf : 1 ≤ R.frames) (hlo : (rest.map fun v => v.category).sum + 13 ≤ R.locals) (hcs : cells ≤ R.cells ∧ slots ≤ R.slots) (d : decode cc pc = .ok (.invokestatic idx, 3)) (k : W p l e R s m args below meth c H locs cells slots Q (F0 m (pc + 3) ls (.int (iZ (abI a)) :: rest))) : W p l e R s m args below meth c H locs cells slots Q (F0 m pc ls (.int (iZ a) :: rest)) := by
  refine va_mabs C.1 C.2.1 (C.2.2.1.trans hsz.symm) C.2.2.2.1 (C.2.2.2.2.1 _ hlk) (C.2.2.2.2.1 _ stM_abs) (C.2.2.2.2.1 _ iniMath) (C.2.2.2.2.1 _ cdM_abs) hf hlo hcs.1 hcs.2 d ?_
  have e : (if 0 ≤ iZ a then iZ a else 0 - iZ a) = iZ (abI a) := by
    unfold abI
    by_cases hc : 0 ≤ iZ a
    · rw [if_pos hc, if_pos (show leb 0 a = true from decide_eq_true hc)]
    · rw [if_neg hc, if_neg (show ¬ leb 0 a = true from fun z => hc (of_decide_eq_true z))]; rw [← iZ_zero, iZ_sub]
  rw [e]
  exact k
theorem m_ldcw (C : Cx p s m args c cc nL own D ad cA sd sv A) {n : Int} {v : Int32} {idx : Nat} (hlk : Cond.constant own idx v ∈ TT) (hv : v = iZ n) (d : decode cc pc = .ok (.ldc_w idx, 3)) (k : W p l e R s m args below meth c H locs cells slots Q (F0 m (pc + 3) ls (.int (iZ n) :: rest))) : W p l e R s m args below meth c H locs cells slots Q (F0 m pc ls rest) := by
  subst hv
  exact lv_ldcw C.1 C.2.1 C.2.2.2.1 (C.2.2.2.2.1 _ hlk) d k
theorem m_ldci (C : Cx p s m args c cc nL own D ad cA sd sv A) {n : Int} {v : Int32} {idx : Nat} (hlk : Cond.constant own idx v ∈ TT) (hv : v = iZ n) (d : decode cc pc = .ok (.ldc idx, 2)) (k : W p l e R s m args below meth c H locs cells slots Q (F0 m (pc + 2) ls (.int (iZ n) :: rest))) : W p l e R s m args below meth c H locs cells slots Q (F0 m pc ls rest) := by
  subst hv
  exact lv_ldc C.1 C.2.1 C.2.2.2.1 (C.2.2.2.2.1 _ hlk) d k
theorem ntC : Cond.native arraycopyName ∈ TT := mT2 227 (by decide +kernel) (by decide +kernel)
theorem stC : Cond.static arraycopyName ∈ TT := mT2 226 (by decide +kernel) (by decide +kernel)
theorem iniS : Cond.initialized "java/lang/System" ∈ TT := mT1 21 (by decide +kernel) (by decide +kernel)
theorem iZ_nn {a : Int} {n : Nat} (h0 : 0 ≤ a) (h1 : a ≤ (n : Int)) (hn : n < 2147483648) : ¬ iZ a < 0 ∧ (iZ a).toNatClampNeg = a.toNat := by
  have e : (iZ a).toInt = a := toInt_iZ (by omega) (by omega)
  refine ⟨?_, by rw [Int32.toNatClampNeg, e]⟩
  rw [Int32.lt_iff_toInt_lt, e]
  show ¬ a < 0
  omega
theorem m_cpy (C : Cx p s m args c cc nL own D ad cA sd sv A) (w : Wd s D ad cA A h H locs) {os od ns nd idx : Nat} {sp dp n : Int} {α : Type} {out : α} {f : Hp → Option α} (hs1 : shp os = .inr (0, ns)) (ho1 : os < 97) (hs2 : shp od = .inr (0, nd)) (ho2 : od < 97) (hn1 : ns < 2147483648) (hn2 : nd < 2147483648) (hM : (cpA h os ns sp od nd dp n).bind f = some out) (hlk : Cond.methodLink own idx arraycopyName ∈ TT) (hsz : ls.size = nL) (hf : 1 ≤ R.frames) (hlo : (rest.map fun v => v.category).sum + (nativeFrameWords "java/lang/System" "arraycopy" 5 + 11) ≤ R.locals) (d : decode cc pc = .ok (.invokestatic idx, 3)) (kk : ∀ (h : Hp) (H : Heap) (locs : List Loc), Wd s D ad cA A h H locs → f h = some out → W p l e R s m args below meth c H locs cells slots Q (F0 m (pc + 3) ls rest)) : W p l e R s m args below meth c H locs cells slots Q (F0 m pc ls (.int (iZ n) :: .int (iZ dp) :: .ref (ad od) :: .int (iZ sp) :: .ref (ad os) :: rest)) := by
  unfold cpA at hM
  by_cases hc : 0 ≤ sp ∧ 0 ≤ dp ∧ 0 ≤ n ∧ sp + n ≤ (ns : Int) ∧ dp + n ≤ (nd : Int)
  · rw [if_pos hc] at hM
    obtain ⟨c1, c2, c3, c4, c5⟩ := hc
    obtain ⟨q1, e1⟩ := iZ_nn (n := ns) c1 (by omega) hn1
    obtain ⟨q2, e2⟩ := iZ_nn (n := nd) c2 (by omega) hn2
    obtain ⟨q3, e3⟩ := iZ_nn (n := ns) c3 (by omega) hn1
    refine va_copyi (D := D) (A := A) C.1 C.2.1 (C.2.2.1.trans hsz.symm) C.2.2.2.1 (C.2.2.2.2.1 _ hlk) (C.2.2.2.2.1 _ ntC) (C.2.2.2.2.1 _ stC) (C.2.2.2.2.1 _ iniS) C.2.2.2.2.2.1 w.1 (C.2.2.2.2.2.2.1.D cA h) w.2 os od 0 0 (c0 := cA 0) (c1 := cA 0) (n0 := ns) (n1 := nd) (f := fun k => iZ (h os k)) (g := fun k => iZ (h od k)) (ty := .int) (by rw [wl_at ad cA h ho1, ent_a hs1 (by decide)]) (by rw [wl_at ad cA h ho2, ent_a hs2 (by decide)]) rfl rfl rfl q1 q2 q3 (by rw [e1, e3]; omega) (by rw [e2, e3]; omega) (fun _ _ => rfl) hf hlo d (fun H1 locs1 hP1 _ hS1 => kk _ H1 locs1 ⟨?_, hS1⟩ hM)
    rw [e1, e2, e3] at hP1
    refine (wl_set ad cA ?_ (fun c hcd => ?_)) ▸ hP1
    · rw [ent_a hs2 (by decide)]
      congr 3
      congr 1
      funext k
      show iZ (if od = od then _ else _) = _
      rw [if_pos rfl]
      unfold va_cpy
      by_cases hk : dp.toNat ≤ k ∧ k < dp.toNat + n.toNat
      · rw [if_pos hk, if_pos hk]
      · rw [if_neg hk, if_neg hk]
    · funext k
      show (if c = od then _ else _) = _
      rw [if_neg hcd]
  · rw [if_neg hc] at hM; cases hM
end M6
